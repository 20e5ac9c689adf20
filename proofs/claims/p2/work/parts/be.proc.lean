set_option maxRecDepth 20000 in
set_option maxHeartbeats 4000000 in
theorem c_readProc_w_at_327p {X : jX} {d : Nat} {Vs : Nat → Prop} {sb pb : Int} (hvb : VB Vs sb) {c0 c1 : jC} {G : Nat → Int} {A : Nat → Nat → Int} {T : jH} {ln li at0 fk nd sy na vi le op0 tk0 pc0 ec : Int} (hd : 8 * 18 + 81 ≤ d + 1) (hW : Wk G A) (e_ln : G 9 = ln) (e_li : G 3 = li) (e_at0 : G 10 = at0) (e_fk : G 16 = fk) (e_nd : G 31 = nd) (e_sy : G 19 = sy) (e_na : G 28 = na) (e_vi : G 29 = vi) (e_le : A 4 (ln).toNat = le) (e_op0 : G 15 = op0) (e_tk0 : G 11 = tk0) (e_pc0 : G 46 = pc0) (e_ec : ecn A (G 31) = ec) (i_LT : LT G A) (i_SV : SV Vs sb G A) (i_PQ : PQ Vs sb pb G A) (p_0 : fk = 0) (p_1 : ln < li) (p_2 : at0 ≤ le) (p_3 : nd ≤ 2 * at0 - tz tk0 + 30) (p_4 : sy ≤ na + 2) (p_5 : vi ≤ sy) (p_6 : sb ≤ sy) (p_7 : pb = pc0) (p_8 : wQ A (pc0).toNat (nd) (sy)) (p_9 : VT (Vs) A (sy)) : ∀ (L : jL) (Gx : Nat → Int) (Ax : Nat → Nat → Int) (p ln1 fk1 sy1 na1 ec1 : Int), jGet L 0 = some (.ref 66) → jGet L 1 = some (.int (i32 p)) → Wk Gx Ax → Fr [9, 10, 11, 12, 13, 14, 15, 16, 17, 18, 19, 28, 29, 31, 46] [6, 7, 8, 9, 10, 11, 12, 14, 15, 16, 17, 18, 19, 20, 21, 22, 23, 24, 28, 29, 30, 31] G A Gx Ax → Pf nd A Ax → Fx sr (sy) A Ax → Fx [14] (vi) A Ax → Fx [29, 30, 31] (pc0) A Ax → Gx 9 = ln1 → Gx 16 = fk1 → Gx 19 = sy1 → Gx 28 = na1 → ecn Ax (Gx 31) = ec1 → Gx 29 = vi → Gx 46 = pc0 → ((-2147483648 : Int) ≤ p ∧ p ≤ 2147483647) → (1 ≤ fk1) → (ln ≤ ln1) → (ln1 ≤ li) → (sy + 1 ≤ sy1) → (sy1 ≤ na1 + 2) → (p = sy) → (pc0 ≤ 23) → wj X d jm308 (327, L, [], rV c0 c1 Gx Ax T) (fun o V' => ∃ (G' : Nat → Int) (A' : Nat → Nat → Int) (ln2 : Int) (at2 : Int) (fk2 : Int) (nd2 : Int) (sy2 : Int) (na2 : Int) (vi2 : Int) (lf2 : Int) (pc2 : Int) (ec2 : Int), V' = rV c0 c1 G' A' T ∧ o = .inl none ∧ Wk G' A' ∧ Fr [9, 10, 11, 12, 13, 14, 15, 16, 17, 18, 19, 28, 29, 31, 46] [6, 7, 8, 9, 10, 11, 12, 14, 15, 16, 17, 18, 19, 20, 21, 22, 23, 24, 28, 29, 30, 31] G A G' A' ∧ Pf nd A A' ∧ Fx sr (sy) A A' ∧ Fx [14] (vi) A A' ∧ Fx [29, 30, 31] (pc0) A A' ∧ G' 9 = ln2 ∧ G' 10 = at2 ∧ G' 16 = fk2 ∧ G' 31 = nd2 ∧ G' 19 = sy2 ∧ G' 28 = na2 ∧ G' 29 = vi2 ∧ A' 3 (ln2).toNat = lf2 ∧ G' 46 = pc2 ∧ ecn A' (G' 31) = ec2 ∧ (sy2 ≤ na2 + 2) ∧ (vi2 ≤ sy2) ∧ (ln ≤ ln2) ∧ (ln2 ≤ li) ∧ (((1 ≤ fk2)) ∨ ((fk2 = 0) ∧ (ln < ln2) ∧ (at0 ≤ at2) ∧ (pc2 = pc0 + 1) ∧ (nd2 - nd ≤ 2 * at2 - (2 * at0 - tz tk0)) ∧ (at2 < lf2 ∨ li ≤ ln2) ∧ (vi2 = vi + 1) ∧ (sy < sy2) ∧ (wQ A' (pc2).toNat (nd2) (sy2)) ∧ (SW (Vu Vs sy) (sy2) (vi2) A') ∧ (PQ (Vu Vs sy) (sy2) (pc2) (fun _ => 0) A') ∧ (VT (Vu Vs sy) A' (sy2)) ∧ (nd2 - nd + 5 * (ec2 - ec) ≤ 2 * at2 - (2 * at0 - tz tk0))))) := by
  have hF0 : Fr [9, 10, 11, 12, 13, 14, 15, 16, 17, 18, 19, 28, 29, 31, 46] [6, 7, 8, 9, 10, 11, 12, 14, 15, 16, 17, 18, 19, 20, 21, 22, 23, 24, 28, 29, 30, 31] G A G A := Fr_rf
  have hP0 : Pf nd A A := Pf_rf
  have hS0 : Fx sr (sy) A A := Fx_rf
  have hV0 : Fx [14] (vi) A A := Fx_rf
  have hK0 : Fx [29, 30, 31] (pc0) A A := Fx_rf
  have b_ln : (0 : Int) ≤ ln ∧ ln ≤ 3000 := e_ln ▸ hW.1 9
  have b_li : (0 : Int) ≤ li ∧ li ≤ 3000 := e_li ▸ hW.1 3
  have b_at0 : (0 : Int) ≤ at0 ∧ at0 ≤ 3002 := e_at0 ▸ hW.1 10
  have b_fk : (0 : Int) ≤ fk ∧ fk ≤ 6 := e_fk ▸ hW.1 16
  have b_nd : (0 : Int) ≤ nd ∧ nd ≤ 6999 := e_nd ▸ hW.1 31
  have b_sy : (0 : Int) ≤ sy ∧ sy ≤ 202 := e_sy ▸ hW.1 19
  have b_na : (0 : Int) ≤ na ∧ na ≤ 200 := e_na ▸ hW.1 28
  have b_vi : (0 : Int) ≤ vi ∧ vi ≤ 202 := e_vi ▸ hW.1 29
  have b_le : (0 : Int) ≤ le ∧ le ≤ 3000 := e_le ▸ hW.2 4 _
  have b_op0 : (-2147483648 : Int) ≤ op0 ∧ op0 ≤ 2147483647 := e_op0 ▸ hW.1 15
  have z_tk0 := tz_f tk0
  have b_tk0 : (0 : Int) ≤ tk0 ∧ tk0 ≤ 5 := e_tk0 ▸ hW.1 11
  have b_pc0 : (0 : Int) ≤ pc0 ∧ pc0 ≤ 24 := e_pc0 ▸ hW.1 46
  intro L Gx Ax p ln1 fk1 sy1 na1 ec1 gL_0 gL_1 hWx hFx hPx hSx hVx hKx ex_ln1 ex_fk1 ex_sy1 ex_na1 ex_ec1 fx_29 fx_46 rx_p iv_0 iv_1 iv_2 iv_3 iv_4 iv_5 iv_6
  have b_ln1 : (0 : Int) ≤ ln1 ∧ ln1 ≤ 3000 := ex_ln1 ▸ hWx.1 9
  have b_fk1 : (0 : Int) ≤ fk1 ∧ fk1 ≤ 6 := ex_fk1 ▸ hWx.1 16
  have b_sy1 : (0 : Int) ≤ sy1 ∧ sy1 ≤ 202 := ex_sy1 ▸ hWx.1 19
  have b_na1 : (0 : Int) ≤ na1 ∧ na1 ≤ 200 := ex_na1 ▸ hWx.1 28
  refine jx_ld (pc' := 328) (l' := L) (st' := [.ref 66]) rfl (jl_aloadn gL_0) ?_
  refine jx_ld (pc' := 329) (l' := L) (st' := [.int (i32 (p)), .ref 66]) rfl (jl_iloadn gL_1) ?_
  refine jx_vr (pc' := 332) (as := [.int (i32 (p))]) (st := []) rfl rfl rfl rfl ⟨rfl, rfl, Nat.le_of_ble_eq_true rfl⟩ rfl rfl (c_show (dd := d) (hd := by omega) (hW := hWx) (s := p) (vi := vi) (e_vi := show Gx 29 = vi from (fx_29))  (h_s := ⟨(Int.le_trans (by decide : (-2147483648 : Int) ≤ -2147483648) rx_p.1), (Int.le_trans rx_p.2 (by decide : (2147483647 : Int) ≤ 2147483647))⟩)  (p_0 := by omega) (p_1 := by omega)) (fun o V' hq => ?_)
  obtain ⟨G1, A2, vi2_3, sv2_4, rfl, rfl, hW5, hF6, hQ7, e8, e9, p10, p11, -⟩ := hq
  have hF13 := Fr_tr hFx hF6 (Fr_sub (by decide)) (Fr_sub (by decide))
  have hP14 := Pf_f hPx hF6 (by decide)
  have hS15 := Fx_f hSx hF6 (by decide)
  have hV16 := Fx_tr hVx hQ7 (by omega)
  have hK17 := Fx_f hKx hF6 (by decide)
  have ec18 : ecn A2 (G1 31) = ec1 := (ecn_f (hF6.2 15 rfl) (hF6.1 31 rfl)).trans ex_ec1
  have bvi2_3 : (0 : Int) ≤ vi2_3 ∧ vi2_3 ≤ 202 := e8 ▸ hW5.1 29
  have bsv2_4 : (0 : Int) ≤ sv2_4 ∧ sv2_4 ≤ 201 := e9 ▸ hW5.2 14 _
  refine .inl ⟨rfl, ?_⟩
  refine jx_ld (pc' := 333) (l' := L) (st' := [.ref 66]) rfl (jl_aloadn gL_0) ?_
  refine jx_ar (pc' := 334) (st' := [.ref 66, .ref 66]) rfl rfl rfl rfl ?_
  refine jr_get (pc' := 337) (i := 46) (v := .int (i32 (pc0))) rfl rfl (by decide) (rFv_eq (by decide) (show G1 46 = pc0 from ((hF6.1 46 rfl).trans (fx_46)))) rfl ?_
  refine jx_ar (pc' := 338) (st' := [.int (i32 (1)), .int (i32 (pc0)), .ref 66]) rfl rfl rfl rfl ?_
  refine jx_add (pc' := 339) rfl rfl ?_
  refine jr_put (pc' := 342) (i := 46) (z := (pc0 + 1)) rfl rfl (by decide) rfl rfl rfl rfl rfl rfl ?_
  have hW19 : Wk (uG G1 46 ((pc0 + 1))) A2 := Wk_g hW5 (show (0 : Int) ≤ (pc0 + 1) by omega) (show (pc0 + 1) ≤ (24 : Int) by omega)
  have hF20 := Fr_g (z := (pc0 + 1)) (i := 46) hF13 (by decide)
  have ec21 : ecn A2 ((uG G1 46 ((pc0 + 1))) 31) = ec1 := ec18
  refine jx_rt (v := none) rfl rfl rfl rfl rfl rfl ?_
  exact ⟨_, _, ln1, Gx 10, fk1, Gx 31, sy1, na1, vi2_3, A 3 (ln1).toNat, (pc0 + 1), ec1, rfl, rfl, hW19, hF20, hP14, hS15, hV16, hK17, ((hF6.1 9 rfl).trans (ex_ln1)), (hF6.1 10 rfl), ((hF6.1 16 rfl).trans (ex_fk1)), (hF6.1 31 rfl), ((hF6.1 19 rfl).trans (ex_sy1)), ((hF6.1 28 rfl).trans (ex_na1)), (e8), (congrFun ((hF6.2 3 rfl).trans (hFx.2 3 rfl)) _), rfl, ec21, by omega, by omega, by omega, by omega, by first | exact Or.inl (by omega)⟩
set_option maxRecDepth 20000 in
set_option maxHeartbeats 4000000 in
theorem c_readProc_w_at_253 {X : jX} {d : Nat} {Vs : Nat → Prop} {sb pb : Int} (hvb : VB Vs sb) {c0 c1 : jC} {G : Nat → Int} {A : Nat → Nat → Int} {T : jH} {ln li at0 fk nd sy na vi le op0 tk0 pc0 ec : Int} (hd : 8 * 18 + 81 ≤ d + 1) (hW : Wk G A) (e_ln : G 9 = ln) (e_li : G 3 = li) (e_at0 : G 10 = at0) (e_fk : G 16 = fk) (e_nd : G 31 = nd) (e_sy : G 19 = sy) (e_na : G 28 = na) (e_vi : G 29 = vi) (e_le : A 4 (ln).toNat = le) (e_op0 : G 15 = op0) (e_tk0 : G 11 = tk0) (e_pc0 : G 46 = pc0) (e_ec : ecn A (G 31) = ec) (i_LT : LT G A) (i_SV : SV Vs sb G A) (i_PQ : PQ Vs sb pb G A) (p_0 : fk = 0) (p_1 : ln < li) (p_2 : at0 ≤ le) (p_3 : nd ≤ 2 * at0 - tz tk0 + 30) (p_4 : sy ≤ na + 2) (p_5 : vi ≤ sy) (p_6 : sb ≤ sy) (p_7 : pb = pc0) (p_8 : wQ A (pc0).toNat (nd) (sy)) (p_9 : VT (Vs) A (sy)) : ∀ (m : Nat) (L : jL) (Gx : Nat → Int) (Ax : Nat → Nat → Int) (p many kk ln1 at1 fk1 sy1 na1 vi1 pp1 mp1 kp1 np1 lf1 : Int), (many - kk).toNat = m → jGet L 0 = some (.ref 66) → jGet L 4 = some (.int (i32 (vi))) → jGet L 1 = some (.int (i32 p)) → jGet L 2 = some (.int (i32 many)) → jGet L 5 = some (.int (i32 kk)) → Wk Gx Ax → Fr [9, 10, 11, 12, 13, 14, 15, 16, 17, 18, 19, 28, 29, 31, 46] [6, 7, 8, 9, 10, 11, 12, 14, 15, 16, 17, 18, 19, 20, 21, 22, 23, 24, 28, 29, 30, 31] G A Gx Ax → Pf nd A Ax → Fx sr (sy) A Ax → Fx [14] (vi) A Ax → Fx [29, 30, 31] (pc0) A Ax → Gx 9 = ln1 → Gx 10 = at1 → Gx 16 = fk1 → Gx 19 = sy1 → Gx 28 = na1 → Gx 29 = vi1 → Ax 29 (pc0).toNat = pp1 → Ax 30 (pc0).toNat = mp1 → Ax 7 (sy).toNat = kp1 → Ax 12 (sy).toNat = np1 → Ax 3 (ln1).toNat = lf1 → Gx 46 = pc0 → Gx 31 = nd → ecn Ax (Gx 31) = ec → ((-2147483648 : Int) ≤ p ∧ p ≤ 2147483647) → ((-2147483648 : Int) ≤ many ∧ many ≤ 2147483647) → ((-2147483648 : Int) ≤ kk ∧ kk ≤ 2147483647) → (fk1 = 0) → (ln1 = ln + 1) → (at0 ≤ at1) → (at1 < lf1 ∨ li ≤ ln1) → (sy1 = sy + 1 + many) → (sy1 ≤ na1 + 2) → (vi1 = vi + kk) → (0 ≤ kk ∧ kk ≤ many) → (many ≤ 6) → (mp1 = many) → (wM Ax (sy + 1) (many)) → (DS Ax (vi) (vi1) (sy + 1) (sy1)) → (kp1 = 14) → (np1 = pc0) → (pp1 = sy + 1) → (p = sy) → (pc0 ≤ 23) → wj X d jm308 (253, L, [], rV c0 c1 Gx Ax T) (fun o V' => ∃ (G' : Nat → Int) (A' : Nat → Nat → Int) (ln2 : Int) (at2 : Int) (fk2 : Int) (nd2 : Int) (sy2 : Int) (na2 : Int) (vi2 : Int) (lf2 : Int) (pc2 : Int) (ec2 : Int), V' = rV c0 c1 G' A' T ∧ o = .inl none ∧ Wk G' A' ∧ Fr [9, 10, 11, 12, 13, 14, 15, 16, 17, 18, 19, 28, 29, 31, 46] [6, 7, 8, 9, 10, 11, 12, 14, 15, 16, 17, 18, 19, 20, 21, 22, 23, 24, 28, 29, 30, 31] G A G' A' ∧ Pf nd A A' ∧ Fx sr (sy) A A' ∧ Fx [14] (vi) A A' ∧ Fx [29, 30, 31] (pc0) A A' ∧ G' 9 = ln2 ∧ G' 10 = at2 ∧ G' 16 = fk2 ∧ G' 31 = nd2 ∧ G' 19 = sy2 ∧ G' 28 = na2 ∧ G' 29 = vi2 ∧ A' 3 (ln2).toNat = lf2 ∧ G' 46 = pc2 ∧ ecn A' (G' 31) = ec2 ∧ (sy2 ≤ na2 + 2) ∧ (vi2 ≤ sy2) ∧ (ln ≤ ln2) ∧ (ln2 ≤ li) ∧ (((1 ≤ fk2)) ∨ ((fk2 = 0) ∧ (ln < ln2) ∧ (at0 ≤ at2) ∧ (pc2 = pc0 + 1) ∧ (nd2 - nd ≤ 2 * at2 - (2 * at0 - tz tk0)) ∧ (at2 < lf2 ∨ li ≤ ln2) ∧ (vi2 = vi + 1) ∧ (sy < sy2) ∧ (wQ A' (pc2).toNat (nd2) (sy2)) ∧ (SW (Vu Vs sy) (sy2) (vi2) A') ∧ (PQ (Vu Vs sy) (sy2) (pc2) (fun _ => 0) A') ∧ (VT (Vu Vs sy) A' (sy2)) ∧ (nd2 - nd + 5 * (ec2 - ec) ≤ 2 * at2 - (2 * at0 - tz tk0))))) := by
  have hF0 : Fr [9, 10, 11, 12, 13, 14, 15, 16, 17, 18, 19, 28, 29, 31, 46] [6, 7, 8, 9, 10, 11, 12, 14, 15, 16, 17, 18, 19, 20, 21, 22, 23, 24, 28, 29, 30, 31] G A G A := Fr_rf
  have hP0 : Pf nd A A := Pf_rf
  have hS0 : Fx sr (sy) A A := Fx_rf
  have hV0 : Fx [14] (vi) A A := Fx_rf
  have hK0 : Fx [29, 30, 31] (pc0) A A := Fx_rf
  have b_ln : (0 : Int) ≤ ln ∧ ln ≤ 3000 := e_ln ▸ hW.1 9
  have b_li : (0 : Int) ≤ li ∧ li ≤ 3000 := e_li ▸ hW.1 3
  have b_at0 : (0 : Int) ≤ at0 ∧ at0 ≤ 3002 := e_at0 ▸ hW.1 10
  have b_fk : (0 : Int) ≤ fk ∧ fk ≤ 6 := e_fk ▸ hW.1 16
  have b_nd : (0 : Int) ≤ nd ∧ nd ≤ 6999 := e_nd ▸ hW.1 31
  have b_sy : (0 : Int) ≤ sy ∧ sy ≤ 202 := e_sy ▸ hW.1 19
  have b_na : (0 : Int) ≤ na ∧ na ≤ 200 := e_na ▸ hW.1 28
  have b_vi : (0 : Int) ≤ vi ∧ vi ≤ 202 := e_vi ▸ hW.1 29
  have b_le : (0 : Int) ≤ le ∧ le ≤ 3000 := e_le ▸ hW.2 4 _
  have b_op0 : (-2147483648 : Int) ≤ op0 ∧ op0 ≤ 2147483647 := e_op0 ▸ hW.1 15
  have z_tk0 := tz_f tk0
  have b_tk0 : (0 : Int) ≤ tk0 ∧ tk0 ≤ 5 := e_tk0 ▸ hW.1 11
  have b_pc0 : (0 : Int) ≤ pc0 ∧ pc0 ≤ 24 := e_pc0 ▸ hW.1 46
  intro m
  induction m using Nat.strongRecOn with
  | ind m ih253 =>
    intro L Gx Ax p many kk ln1 at1 fk1 sy1 na1 vi1 pp1 mp1 kp1 np1 lf1 hm gL_0 gL_4 gL_1 gL_2 gL_5 hWx hFx hPx hSx hVx hKx ex_ln1 ex_at1 ex_fk1 ex_sy1 ex_na1 ex_vi1 ex_pp1 ex_mp1 ex_kp1 ex_np1 ex_lf1 fx_46 fx_31 fx_900 rx_p rx_many rx_kk iv_0 iv_1 iv_2 iv_3 iv_4 iv_5 iv_6 iv_7 iv_8 iv_9 iv_10 iv_11 iv_12 iv_13 iv_14 iv_15 iv_16
    have b_ln1 : (0 : Int) ≤ ln1 ∧ ln1 ≤ 3000 := ex_ln1 ▸ hWx.1 9
    have b_at1 : (0 : Int) ≤ at1 ∧ at1 ≤ 3002 := ex_at1 ▸ hWx.1 10
    have b_fk1 : (0 : Int) ≤ fk1 ∧ fk1 ≤ 6 := ex_fk1 ▸ hWx.1 16
    have b_sy1 : (0 : Int) ≤ sy1 ∧ sy1 ≤ 202 := ex_sy1 ▸ hWx.1 19
    have b_na1 : (0 : Int) ≤ na1 ∧ na1 ≤ 200 := ex_na1 ▸ hWx.1 28
    have b_vi1 : (0 : Int) ≤ vi1 ∧ vi1 ≤ 202 := ex_vi1 ▸ hWx.1 29
    refine jx_ld (pc' := 255) (l' := L) (st' := [.int (i32 (kk))]) rfl (jl_iload gL_5) ?_
    refine jx_ld (pc' := 256) (l' := L) (st' := [.int (i32 (many)), .int (i32 (kk))]) rfl (jl_iloadn gL_2) ?_
    refine jx_icmp_ge (pc' := 259) (tg := 281) rfl rfl rfl (Int.le_trans (by decide : (-2147483648 : Int) ≤ -2147483648) rx_kk.1) (Int.le_trans rx_kk.2 (by decide : (2147483647 : Int) ≤ 2147483647)) (Int.le_trans (by decide : (-2147483648 : Int) ≤ -2147483648) rx_many.1) (Int.le_trans rx_many.2 (by decide : (2147483647 : Int) ≤ 2147483647)) (fun h22 => ?_) (fun h22 => ?_)
    · have _q := h22
      refine jx_ld (pc' := 282) (l' := L) (st' := [.ref 66]) rfl (jl_aloadn gL_0) ?_
      refine jr_get (pc' := 285) (i := 49) (v := .ref 98) rfl rfl (by decide) rfl rfl ?_
      refine jx_ld (pc' := 286) (l' := L) (st' := [.ref 66, .ref 98]) rfl (jl_aloadn gL_0) ?_
      refine jr_get (pc' := 289) (i := 46) (v := .int (i32 (pc0))) rfl rfl (by decide) (rFv_eq (by decide) (show Gx 46 = pc0 from (fx_46))) rfl ?_
      refine jx_ld (pc' := 290) (l' := L) (st' := [.ref 66, .int (i32 (pc0)), .ref 98]) rfl (jl_aloadn gL_0) ?_
      refine jx_ar (pc' := 291) (st' := [.int (i32 (1)), .ref 66, .int (i32 (pc0)), .ref 98]) rfl rfl rfl rfl ?_
      refine jx_vr (pc' := 294) (as := [.int (i32 (1))]) (st := [.int (i32 (pc0)), .ref 98]) rfl rfl rfl rfl ⟨rfl, rfl, Nat.le_of_ble_eq_true rfl⟩ rfl rfl (RP_all X 18 (dd := d) (hd := by omega) (hW := hWx) (lv := 1) (at0 := at1) (ln := ln1) (e_ln := show Gx 9 = ln1 from (ex_ln1)) (li := li) (e_li := show Gx 3 = li from ((hFx.1 3 rfl).trans (e_li))) (fk := fk1) (e_fk := show Gx 16 = fk1 from (ex_fk1)) (nd := nd) (e_nd := show Gx 31 = nd from (fx_31)) (sy := sy1) (e_sy := show Gx 19 = sy1 from (ex_sy1)) (na := na1) (e_na := show Gx 28 = na1 from (ex_na1)) (vi := vi1) (e_vi := show Gx 29 = vi1 from (ex_vi1)) (lf := lf1) (e_lf := show Ax 3 (ln1).toNat = lf1 from (ex_lf1)) (ac := at1) (e_ac := show Gx 10 = at1 from (ex_at1)) (ec := ec) (e_ec := show ecn Ax (Gx 31) = ec from fx_900) (i_LT := (LT_ext ((hFx.1 3 rfl)) ((hFx.2 3 rfl)) ((hFx.2 4 rfl)) i_LT)) (i_SV := (SV_dec (s0 := (sy + 1)) (s1 := sy1) i_SV e_vi (show Gx 29 = vi1 from (ex_vi1)) (by omega) hVx iv_11 (by omega))) (i_PQ := (PQ_par (s0 := (sy + 1)) (s1 := sy1) i_PQ hSx (by omega) (by omega) (Fx_su hKx (by omega)) (by omega) (wM_m iv_10 (by omega)) hvb)) (hvb := (VB_d (s0 := (sy + 1)) (s1 := sy1) hvb (by omega))) (h_lv := ⟨(by decide), (by decide)⟩)  (p_0 := by omega) (p_1 := by omega) (p_2 := by omega) (p_3 := by omega) (p_4 := by omega) (p_5 := by omega) (p_6 := by omega) (p_7 := by omega) (p_8 := by omega) (p_9 := by omega) (p_10 := by omega)) (fun o V' hq => ?_)
      obtain ⟨G23, A24, r25, ln2_26, at2_27, fk2_28, nd2_29, sy2_30, na2_31, vi2_32, lf2_33, ec2_34, rfl, rfl, hW35, hF36, hQ37, hQ38, hQ39, b40, e41, e42, e43, e44, e45, e46, e47, e48, e49, p50, p51, p52, p53, p54, p55, p56, p57, p58, q59⟩ := hq
      have hF60 := Fr_tr hFx hF36 (Fr_sub (by decide)) (Fr_sub (by decide))
      have hP61 := Pf_tr hPx hQ37 (by omega)
      have hS62 := Fx_tr hSx hQ38 (by omega)
      have hV63 := Fx_tr hVx hQ39 (by omega)
      have hK64 := Fx_f hKx hF36 (by decide)
      have k65 : A24 7 (sy).toNat = kp1 := (hQ38 7 _ rfl (by omega)).trans (show Ax 7 (sy).toNat = kp1 from (ex_kp1))
      have k66 : A24 12 (sy).toNat = np1 := (hQ38 12 _ rfl (by omega)).trans (show Ax 12 (sy).toNat = np1 from (ex_np1))
      have sf67 : wM A24 (sy + 1) (many) := wM_fx hQ38 (by omega) (by omega) iv_10
      have sf68 : DS A24 (vi) (vi1) (sy + 1) (sy1) := DS_fx hQ39 (by omega) iv_11
      have bln2_26 : (0 : Int) ≤ ln2_26 ∧ ln2_26 ≤ 3000 := e41 ▸ hW35.1 9
      have bat2_27 : (0 : Int) ≤ at2_27 ∧ at2_27 ≤ 3002 := e42 ▸ hW35.1 10
      have bfk2_28 : (0 : Int) ≤ fk2_28 ∧ fk2_28 ≤ 6 := e43 ▸ hW35.1 16
      have bnd2_29 : (0 : Int) ≤ nd2_29 ∧ nd2_29 ≤ 6999 := e44 ▸ hW35.1 31
      have bsy2_30 : (0 : Int) ≤ sy2_30 ∧ sy2_30 ≤ 202 := e45 ▸ hW35.1 19
      have bna2_31 : (0 : Int) ≤ na2_31 ∧ na2_31 ≤ 200 := e46 ▸ hW35.1 28
      have bvi2_32 : (0 : Int) ≤ vi2_32 ∧ vi2_32 ≤ 202 := e47 ▸ hW35.1 29
      have blf2_33 : (0 : Int) ≤ lf2_33 ∧ lf2_33 ≤ 3000 := e48 ▸ hW35.2 3 _
      refine .inr ⟨_, rfl, ?_⟩
      rcases q59 with ⟨a69, a70⟩ | ⟨a71, a72, a73, a74, a75, a76, a77, a78, a79, a80⟩
      · have _q : True := trivial
        refine jr_st (pc' := 295) (i := 31) (m := 25) (z := pc0) (y := r25) rfl (by decide) rfl (by decide) (by omega) (by omega) rfl ?_
        have hW82 : Wk G23 (uA A24 31 (pc0).toNat (r25)) := Wk_a hW35 (show (-2147483648 : Int) ≤ r25 by omega) (show r25 ≤ (2147483647 : Int) by omega)
        have hF83 := Fr_a (z := r25) (k := 31) (n := (pc0).toNat) hF60 (by decide)
        obtain ⟨A81, eA81⟩ : ∃ q, q = uA A24 31 (pc0).toNat (r25) := ⟨_, rfl⟩
        rw [← eA81]
        rw [← eA81] at hW82 hF83
        have q84 : A81 31 (pc0).toNat = r25 := by rw [eA81]; exact uA_eq
        have hP85 : Pf nd A A81 := eA81 ▸ Pf_n hP61 rfl
        have hS86 : Fx sr (sy) A A81 := eA81 ▸ Fx_n hS62 rfl
        have hV87 : Fx [14] (vi) A A81 := eA81 ▸ Fx_n hV63 rfl
        have hK88 : Fx [29, 30, 31] (pc0) A A81 := eA81 ▸ Fx_a hK64 (z := pc0) (by omega) (by omega)
        have sf89 : wM A81 (sy + 1) (many) := wM_fx (Sg_ne (sb := sy + 1 + many) eA81 rfl) (by omega) (by omega) sf67
        have sf90 : DS A81 (vi) (vi1) (sy + 1) (sy1) := DS_ext ((congrFun eA81 14).trans (uA_ne (by decide))) sf68
        have ec91 : ecn A81 (G23 31) = ec2_34 := (ecn_e ((congrFun eA81 15).trans (uA_ne (by decide)))).trans e49
        refine jx_ld (pc' := 296) (l' := L) (st' := [.ref 66]) rfl (jl_aloadn gL_0) ?_
        refine jx_ld (pc' := 298) (l' := L) (st' := [.int (i32 (vi)), .ref 66]) rfl (jl_iload gL_4) ?_
        refine jr_put (pc' := 301) (i := 29) (z := vi) rfl rfl (by decide) rfl rfl rfl rfl rfl rfl ?_
        have hW92 : Wk (uG G23 29 (vi)) A81 := Wk_g hW82 (show (0 : Int) ≤ vi by omega) (show vi ≤ (202 : Int) by omega)
        have hF93 := Fr_g (z := vi) (i := 29) hF83 (by decide)
        have ec94 : ecn A81 ((uG G23 29 (vi)) 31) = ec2_34 := ec91
        have _q : True := trivial
        refine jx_ld (pc' := 302) (l' := L) (st' := [.ref 66]) rfl (jl_aloadn gL_0) ?_
        refine jx_ar (pc' := 303) (st' := [.int (i32 (0)), .ref 66]) rfl rfl rfl rfl ?_
        have b95 : (-1 : Int) ≤ A 5 (ln2_26).toNat ∧ A 5 (ln2_26).toNat ≤ 15 := hW.2 5 _
        refine jx_vr (pc' := 306) (as := [.int (i32 (0))]) (st := []) rfl rfl rfl rfl ⟨rfl, rfl, Nat.le_of_ble_eq_true rfl⟩ rfl rfl (c_needLevel (dd := d) (hd := by omega) (hW := hW92) (lv := 0) (ln := ln2_26) (e_ln := show (uG G23 29 (vi)) 9 = ln2_26 from (e41)) (li := li) (e_li := show (uG G23 29 (vi)) 3 = li from ((hF36.1 3 rfl).trans ((hFx.1 3 rfl).trans (e_li)))) (fk := fk2_28) (e_fk := show (uG G23 29 (vi)) 16 = fk2_28 from (e43)) (ll := A 5 (ln2_26).toNat) (e_ll := show A81 5 (ln2_26).toNat = A 5 (ln2_26).toNat from (congrFun (((congrFun eA81 5).trans (uA_ne (by decide))).trans ((hF36.2 5 rfl).trans (hFx.2 5 rfl))) _))  (h_lv := ⟨(by decide), (by decide)⟩)  ) (fun o V' hq => ?_)
        obtain ⟨G96, A97, r98, fk2_99, rfl, rfl, hW100, hF101, b102, e103, q104⟩ := hq
        have hF105 := Fr_tr hF93 hF101 (Fr_sub (by decide)) (Fr_sub (by decide))
        have hP106 := Pf_f hP85 hF101 (by decide)
        have hS107 := Fx_f hS86 hF101 (by decide)
        have hV108 := Fx_f hV87 hF101 (by decide)
        have hK109 := Fx_f hK88 hF101 (by decide)
        have sf110 : wM A97 (sy + 1) (many) := wM_fx (Sg_fr (sb := sy + 1 + many) hF101 (by decide)) (by omega) (by omega) sf89
        have ec111 : ecn A97 (G96 31) = ec2_34 := (ecn_f (hF101.2 15 rfl) (hF101.1 31 rfl)).trans ec94
        have bfk2_99 : (0 : Int) ≤ fk2_99 ∧ fk2_99 ≤ 6 := e103 ▸ hW100.1 16
        refine .inr ⟨_, rfl, ?_⟩
        rcases q104 with ⟨rfl, a112, a113, a114, a115⟩ | ⟨rfl, a116⟩
        · have _q : True := trivial
          exfalso
          omega
        · have _q : True := trivial
          refine jx_if_eq (pc' := 309) (tg := 327) rfl rfl rfl (by decide) (by decide) (fun h117 => ?_) (fun h117 => ?_)
          · have _q := h117
            exact c_readProc_w_at_327p (X := X) (d := d) (Vs := Vs) (sb := sb) (pb := pb) (hvb := hvb) (c0 := c0) (c1 := c1) (G := G) (A := A) (T := T) (ln := ln) (li := li) (at0 := at0) (fk := fk) (nd := nd) (sy := sy) (na := na) (vi := vi) (le := le) (op0 := op0) (tk0 := tk0) (pc0 := pc0) (ec := ec) (hd := hd) (hW := hW) (e_ln := e_ln) (e_li := e_li) (e_at0 := e_at0) (e_fk := e_fk) (e_nd := e_nd) (e_sy := e_sy) (e_na := e_na) (e_vi := e_vi) (e_le := e_le) (e_op0 := e_op0) (e_tk0 := e_tk0) (e_pc0 := e_pc0) (e_ec := e_ec) (i_LT := i_LT) (i_SV := i_SV) (i_PQ := i_PQ) (p_0 := p_0) (p_1 := p_1) (p_2 := p_2) (p_3 := p_3) (p_4 := p_4) (p_5 := p_5) (p_6 := p_6) (p_7 := p_7) (p_8 := p_8) (p_9 := p_9) L G96 A97 (p) (ln2_26) (fk2_99) (sy2_30) (na2_31) (ec2_34) gL_0 gL_1 hW100 hF105 hP106 hS107 hV108 hK109 (((hF101.1 9 rfl).trans (e41))) ((e103)) (((hF101.1 19 rfl).trans (e45))) (((hF101.1 28 rfl).trans (e46))) (ec111) ((hF101.1 29 rfl)) (((hF101.1 46 rfl).trans ((hF36.1 46 rfl).trans (fx_46)))) (by omega) (by omega) (by omega) (by omega) (by omega) (by omega) (by omega) (by omega)
          · have _q := h117
            exact absurd h117 (by omega)
      · have _q : True := trivial
        refine jr_st (pc' := 295) (i := 31) (m := 25) (z := pc0) (y := r25) rfl (by decide) rfl (by decide) (by omega) (by omega) rfl ?_
        have hW119 : Wk G23 (uA A24 31 (pc0).toNat (r25)) := Wk_a hW35 (show (-2147483648 : Int) ≤ r25 by omega) (show r25 ≤ (2147483647 : Int) by omega)
        have hF120 := Fr_a (z := r25) (k := 31) (n := (pc0).toNat) hF60 (by decide)
        obtain ⟨A118, eA118⟩ : ∃ q, q = uA A24 31 (pc0).toNat (r25) := ⟨_, rfl⟩
        rw [← eA118]
        rw [← eA118] at hW119 hF120
        have q121 : A118 31 (pc0).toNat = r25 := by rw [eA118]; exact uA_eq
        have hP122 : Pf nd A A118 := eA118 ▸ Pf_n hP61 rfl
        have hS123 : Fx sr (sy) A A118 := eA118 ▸ Fx_n hS62 rfl
        have hV124 : Fx [14] (vi) A A118 := eA118 ▸ Fx_n hV63 rfl
        have hK125 : Fx [29, 30, 31] (pc0) A A118 := eA118 ▸ Fx_a hK64 (z := pc0) (by omega) (by omega)
        have sf126 : wM A118 (sy + 1) (many) := wM_fx (Sg_ne (sb := sy + 1 + many) eA118 rfl) (by omega) (by omega) sf67
        have sf127 : DS A118 (vi) (vi1) (sy + 1) (sy1) := DS_ext ((congrFun eA118 14).trans (uA_ne (by decide))) sf68
        have sf128 : wP A118 (sy2_30) pb (18) (Vd Vs (sy + 1) sy1) (r25) (nd) (nd2_29) (sy1) (sy2_30) := wP_ag (Sg_ne eA118 rfl) (Qg_ne eA118 rfl) (by omega) (by omega) (Ax_ag (Ag_ne eA118 rfl)) a77
        have sf129 : NX A118 (r25) := NX_r eA118 (by decide) a78
        have ec130 : ecn A118 (G23 31) = ec2_34 := (ecn_e ((congrFun eA118 15).trans (uA_ne (by decide)))).trans e49
        refine jx_ld (pc' := 296) (l' := L) (st' := [.ref 66]) rfl (jl_aloadn gL_0) ?_
        refine jx_ld (pc' := 298) (l' := L) (st' := [.int (i32 (vi)), .ref 66]) rfl (jl_iload gL_4) ?_
        refine jr_put (pc' := 301) (i := 29) (z := vi) rfl rfl (by decide) rfl rfl rfl rfl rfl rfl ?_
        have hW131 : Wk (uG G23 29 (vi)) A118 := Wk_g hW119 (show (0 : Int) ≤ vi by omega) (show vi ≤ (202 : Int) by omega)
        have hF132 := Fr_g (z := vi) (i := 29) hF120 (by decide)
        have ec133 : ecn A118 ((uG G23 29 (vi)) 31) = ec2_34 := ec130
        have _q : True := trivial
        refine jx_ld (pc' := 302) (l' := L) (st' := [.ref 66]) rfl (jl_aloadn gL_0) ?_
        refine jx_ar (pc' := 303) (st' := [.int (i32 (0)), .ref 66]) rfl rfl rfl rfl ?_
        have b134 : (-1 : Int) ≤ A 5 (ln2_26).toNat ∧ A 5 (ln2_26).toNat ≤ 15 := hW.2 5 _
        refine jx_vr (pc' := 306) (as := [.int (i32 (0))]) (st := []) rfl rfl rfl rfl ⟨rfl, rfl, Nat.le_of_ble_eq_true rfl⟩ rfl rfl (c_needLevel (dd := d) (hd := by omega) (hW := hW131) (lv := 0) (ln := ln2_26) (e_ln := show (uG G23 29 (vi)) 9 = ln2_26 from (e41)) (li := li) (e_li := show (uG G23 29 (vi)) 3 = li from ((hF36.1 3 rfl).trans ((hFx.1 3 rfl).trans (e_li)))) (fk := fk2_28) (e_fk := show (uG G23 29 (vi)) 16 = fk2_28 from (e43)) (ll := A 5 (ln2_26).toNat) (e_ll := show A118 5 (ln2_26).toNat = A 5 (ln2_26).toNat from (congrFun (((congrFun eA118 5).trans (uA_ne (by decide))).trans ((hF36.2 5 rfl).trans (hFx.2 5 rfl))) _))  (h_lv := ⟨(by decide), (by decide)⟩)  ) (fun o V' hq => ?_)
        obtain ⟨G135, A136, r137, fk2_138, rfl, rfl, hW139, hF140, b141, e142, q143⟩ := hq
        have hF144 := Fr_tr hF132 hF140 (Fr_sub (by decide)) (Fr_sub (by decide))
        have hP145 := Pf_f hP122 hF140 (by decide)
        have hS146 := Fx_f hS123 hF140 (by decide)
        have hV147 := Fx_f hV124 hF140 (by decide)
        have hK148 := Fx_f hK125 hF140 (by decide)
        have sf149 : wM A136 (sy + 1) (many) := wM_fx (Sg_fr (sb := sy + 1 + many) hF140 (by decide)) (by omega) (by omega) sf126
        have sf150 : wP A136 (sy2_30) pb (18) (Vd Vs (sy + 1) sy1) (r25) (nd) (nd2_29) (sy1) (sy2_30) := wP_ag (Sg_fr hF140 (by decide)) (Qg_fr hF140 (by decide)) (by omega) (by omega) (Ax_ag (Ag_fr hF140 (by decide))) sf128
        have sf151 : NX A136 (r25) := NX_ag (by omega) (Ag_fr hF140 (by decide)) sf129
        have ec152 : ecn A136 (G135 31) = ec2_34 := (ecn_f (hF140.2 15 rfl) (hF140.1 31 rfl)).trans ec133
        have bfk2_138 : (0 : Int) ≤ fk2_138 ∧ fk2_138 ≤ 6 := e142 ▸ hW139.1 16
        refine .inr ⟨_, rfl, ?_⟩
        rcases q143 with ⟨rfl, a153, a154, a155, a156⟩ | ⟨rfl, a157⟩
        · have _q : True := trivial
          have b158 : (0 : Int) ≤ A 4 (ln2_26).toNat ∧ A 4 (ln2_26).toNat ≤ 3000 := hW.2 4 _
          have lt159 : lf2_33 < A 4 (ln2_26).toNat := LT_at (LT_ext (((hF140.1 3 rfl).trans ((hF36.1 3 rfl).trans (hFx.1 3 rfl)))) (((hF140.2 3 rfl).trans (((congrFun eA118 3).trans (uA_ne (by decide))).trans ((hF36.2 3 rfl).trans (hFx.2 3 rfl))))) (((hF140.2 4 rfl).trans (((congrFun eA118 4).trans (uA_ne (by decide))).trans ((hF36.2 4 rfl).trans (hFx.2 4 rfl))))) i_LT) (show G135 3 = li from ((hF140.1 3 rfl).trans ((hF36.1 3 rfl).trans ((hFx.1 3 rfl).trans (e_li))))) (show A136 3 (ln2_26).toNat = lf2_33 from (congrFun ((hF140.2 3 rfl).trans ((congrFun eA118 3).trans (uA_ne (by decide)))) _).trans (e48)) (show A136 4 (ln2_26).toNat = A 4 (ln2_26).toNat from (congrFun ((hF140.2 4 rfl).trans (((congrFun eA118 4).trans (uA_ne (by decide))).trans ((hF36.2 4 rfl).trans (hFx.2 4 rfl)))) _)) (by omega) (by omega)
          refine jx_if_eq (pc' := 309) (tg := 327) rfl rfl rfl (by decide) (by decide) (fun h160 => ?_) (fun h160 => ?_)
          · have _q := h160
            exact absurd h160 (by omega)
          · have _q := h160
            refine jx_ld (pc' := 310) (l' := L) (st' := [.ref 66]) rfl (jl_aloadn gL_0) ?_
            refine jx_vr (pc' := 313) (as := []) (st := []) rfl rfl rfl rfl ⟨rfl, rfl, Nat.le_of_ble_eq_true rfl⟩ rfl rfl (c_openLine (dd := d) (hd := by omega) (hW := hW139)  (ln := ln2_26) (e_ln := show G135 9 = ln2_26 from ((hF140.1 9 rfl).trans (e41))) (le := A 4 (ln2_26).toNat) (e_le := show A136 4 (ln2_26).toNat = A 4 (ln2_26).toNat from (congrFun ((hF140.2 4 rfl).trans (((congrFun eA118 4).trans (uA_ne (by decide))).trans ((hF36.2 4 rfl).trans (hFx.2 4 rfl)))) _)) (lf := lf2_33) (e_lf := show A136 3 (ln2_26).toNat = lf2_33 from (congrFun ((hF140.2 3 rfl).trans ((congrFun eA118 3).trans (uA_ne (by decide)))) _).trans (e48))    (p_0 := by omega)) (fun o V' hq => ?_)
            obtain ⟨G161, A162, at2_163, tk2_164, op2_165, rfl, rfl, hW166, hF167, e168, e169, e170, p171, p172, p173, p174, -⟩ := hq
            have hF176 := Fr_tr hF144 hF167 (Fr_sub (by decide)) (Fr_sub (by decide))
            have hP177 := Pf_f hP145 hF167 (by decide)
            have hS178 := Fx_f hS146 hF167 (by decide)
            have hV179 := Fx_f hV147 hF167 (by decide)
            have hK180 := Fx_f hK148 hF167 (by decide)
            have sf181 : wM A162 (sy + 1) (many) := wM_fx (Sg_fr (sb := sy + 1 + many) hF167 (by decide)) (by omega) (by omega) sf149
            have sf182 : wP A162 (sy2_30) pb (18) (Vd Vs (sy + 1) sy1) (r25) (nd) (nd2_29) (sy1) (sy2_30) := wP_ag (Sg_fr hF167 (by decide)) (Qg_fr hF167 (by decide)) (by omega) (by omega) (Ax_ag (Ag_fr hF167 (by decide))) sf150
            have sf183 : NX A162 (r25) := NX_ag (by omega) (Ag_fr hF167 (by decide)) sf151
            have ec184 : ecn A162 (G161 31) = ec2_34 := (ecn_f (hF167.2 15 rfl) (hF167.1 31 rfl)).trans ec152
            have bat2_163 : (0 : Int) ≤ at2_163 ∧ at2_163 ≤ 3002 := e168 ▸ hW166.1 10
            have ztk2_164 := tz_b tk2_164
            have btk2_164 : (0 : Int) ≤ tk2_164 ∧ tk2_164 ≤ 5 := e169 ▸ hW166.1 11
            have bop2_165 : (-2147483648 : Int) ≤ op2_165 ∧ op2_165 ≤ 2147483647 := e170 ▸ hW166.1 15
            refine .inl ⟨rfl, ?_⟩
            refine jx_ld (pc' := 314) (l' := L) (st' := [.ref 66]) rfl (jl_aloadn gL_0) ?_
            refine jx_ld (pc' := 315) (l' := L) (st' := [.ref 66, .ref 66]) rfl (jl_aloadn gL_0) ?_
            refine jx_ar (pc' := 317) (st' := [.int (i32 (58)), .ref 66, .ref 66]) rfl rfl rfl rfl ?_
            have b185 : (-2147483648 : Int) ≤ G161 13 ∧ G161 13 ≤ 2147483647 := hW166.1 13
            refine jx_vr (pc' := 320) (as := [.int (i32 (58))]) (st := [.ref 66]) rfl rfl rfl rfl ⟨rfl, rfl, Nat.le_of_ble_eq_true rfl⟩ rfl rfl (c_is (dd := d) (hd := by omega) (hW := hW166) (k := 58) (tk := tk2_164) (e_tk := show G161 11 = tk2_164 from (e169)) (tn := G161 13) (e_tn := show G161 13 = G161 13 from rfl)  (h_k := ⟨(by decide), (by decide)⟩)  ) (fun o V' hq => ?_)
            obtain ⟨r186, rfl, rfl, b187, q188⟩ := hq
            refine .inr ⟨_, rfl, ?_⟩
            rcases q188 with ⟨rfl, a189, a190, a191⟩ | rfl
            · have _q : True := trivial
              refine jx_vr (pc' := 323) (as := [.int (i32 (1))]) (st := []) rfl rfl rfl rfl ⟨rfl, rfl, Nat.le_of_ble_eq_true rfl⟩ rfl rfl (c_need (dd := d) (hd := by omega) (hW := hW166) (g := 1) (ln := ln2_26) (e_ln := show G161 9 = ln2_26 from ((hF167.1 9 rfl).trans ((hF140.1 9 rfl).trans (e41)))) (le := A 4 (ln2_26).toNat) (e_le := show A162 4 (ln2_26).toNat = A 4 (ln2_26).toNat from (congrFun ((hF167.2 4 rfl).trans ((hF140.2 4 rfl).trans (((congrFun eA118 4).trans (uA_ne (by decide))).trans ((hF36.2 4 rfl).trans (hFx.2 4 rfl))))) _)) (at0 := at2_163) (e_at0 := show G161 10 = at2_163 from (e168)) (fk := fk2_138) (e_fk := show G161 16 = fk2_138 from ((hF167.1 16 rfl).trans (e142))) (tk0 := tk2_164) (e_tk0 := show G161 11 = tk2_164 from (e169))  (h_g := ⟨(by decide), (by decide)⟩)  (p_0 := by omega)) (fun o V' hq => ?_)
              obtain ⟨G192, A193, at2_194, tk2_195, fk2_196, rfl, rfl, hW197, hF198, e199, e200, e201, p202, p203, q204⟩ := hq
              have hF205 := Fr_tr hF176 hF198 (Fr_sub (by decide)) (Fr_sub (by decide))
              have hP206 := Pf_f hP177 hF198 (by decide)
              have hS207 := Fx_f hS178 hF198 (by decide)
              have hV208 := Fx_f hV179 hF198 (by decide)
              have hK209 := Fx_f hK180 hF198 (by decide)
              have sf210 : wM A193 (sy + 1) (many) := wM_fx (Sg_fr (sb := sy + 1 + many) hF198 (by decide)) (by omega) (by omega) sf181
              have sf211 : wP A193 (sy2_30) pb (18) (Vd Vs (sy + 1) sy1) (r25) (nd) (nd2_29) (sy1) (sy2_30) := wP_ag (Sg_fr hF198 (by decide)) (Qg_fr hF198 (by decide)) (by omega) (by omega) (Ax_ag (Ag_fr hF198 (by decide))) sf182
              have sf212 : NX A193 (r25) := NX_ag (by omega) (Ag_fr hF198 (by decide)) sf183
              have ec213 : ecn A193 (G192 31) = ec2_34 := (ecn_f (hF198.2 15 rfl) (hF198.1 31 rfl)).trans ec184
              have bat2_194 : (0 : Int) ≤ at2_194 ∧ at2_194 ≤ 3002 := e199 ▸ hW197.1 10
              have ztk2_195 := tz_b tk2_195
              have btk2_195 : (0 : Int) ≤ tk2_195 ∧ tk2_195 ≤ 5 := e200 ▸ hW197.1 11
              have bfk2_196 : (0 : Int) ≤ fk2_196 ∧ fk2_196 ≤ 6 := e201 ▸ hW197.1 16
              refine .inl ⟨rfl, ?_⟩
              rcases q204 with ⟨a214, a215, a216, a217⟩ | ⟨a218, a219, a220, a221⟩
              · have _q : True := trivial
                refine jx_ld (pc' := 324) (l' := L) (st' := [.ref 66]) rfl (jl_aloadn gL_0) ?_
                refine jx_vr (pc' := 327) (as := []) (st := []) rfl rfl rfl rfl ⟨rfl, rfl, Nat.le_of_ble_eq_true rfl⟩ rfl rfl (c_endLine (dd := d) (hd := by omega) (hW := hW197)  (ln := ln2_26) (e_ln := show G192 9 = ln2_26 from ((hF198.1 9 rfl).trans ((hF167.1 9 rfl).trans ((hF140.1 9 rfl).trans (e41))))) (li := li) (e_li := show G192 3 = li from ((hF198.1 3 rfl).trans ((hF167.1 3 rfl).trans ((hF140.1 3 rfl).trans ((hF36.1 3 rfl).trans ((hFx.1 3 rfl).trans (e_li))))))) (fk := fk2_196) (e_fk := show G192 16 = fk2_196 from (e201)) (tk0 := tk2_195) (e_tk0 := show G192 11 = tk2_195 from (e200))    (p_0 := by omega)) (fun o V' hq => ?_)
                obtain ⟨G222, A223, ln2_224, fk2_225, rfl, rfl, hW226, hF227, e228, e229, q230⟩ := hq
                have hF231 := Fr_tr hF205 hF227 (Fr_sub (by decide)) (Fr_sub (by decide))
                have hP232 := Pf_f hP206 hF227 (by decide)
                have hS233 := Fx_f hS207 hF227 (by decide)
                have hV234 := Fx_f hV208 hF227 (by decide)
                have hK235 := Fx_f hK209 hF227 (by decide)
                have sf236 : wM A223 (sy + 1) (many) := wM_fx (Sg_fr (sb := sy + 1 + many) hF227 (by decide)) (by omega) (by omega) sf210
                have sf237 : wP A223 (sy2_30) pb (18) (Vd Vs (sy + 1) sy1) (r25) (nd) (nd2_29) (sy1) (sy2_30) := wP_ag (Sg_fr hF227 (by decide)) (Qg_fr hF227 (by decide)) (by omega) (by omega) (Ax_ag (Ag_fr hF227 (by decide))) sf211
                have sf238 : NX A223 (r25) := NX_ag (by omega) (Ag_fr hF227 (by decide)) sf212
                have ec239 : ecn A223 (G222 31) = ec2_34 := (ecn_f (hF227.2 15 rfl) (hF227.1 31 rfl)).trans ec213
                have bln2_224 : (0 : Int) ≤ ln2_224 ∧ ln2_224 ≤ 3000 := e228 ▸ hW226.1 9
                have bfk2_225 : (0 : Int) ≤ fk2_225 ∧ fk2_225 ≤ 6 := e229 ▸ hW226.1 16
                refine .inl ⟨rfl, ?_⟩
                rcases q230 with ⟨a240, a241, a242, a243, a244⟩ | ⟨a245, a246⟩
                · have _q : True := trivial
                  exfalso
                  omega
                · have _q : True := trivial
                  exact c_readProc_w_at_327p (X := X) (d := d) (Vs := Vs) (sb := sb) (pb := pb) (hvb := hvb) (c0 := c0) (c1 := c1) (G := G) (A := A) (T := T) (ln := ln) (li := li) (at0 := at0) (fk := fk) (nd := nd) (sy := sy) (na := na) (vi := vi) (le := le) (op0 := op0) (tk0 := tk0) (pc0 := pc0) (ec := ec) (hd := hd) (hW := hW) (e_ln := e_ln) (e_li := e_li) (e_at0 := e_at0) (e_fk := e_fk) (e_nd := e_nd) (e_sy := e_sy) (e_na := e_na) (e_vi := e_vi) (e_le := e_le) (e_op0 := e_op0) (e_tk0 := e_tk0) (e_pc0 := e_pc0) (e_ec := e_ec) (i_LT := i_LT) (i_SV := i_SV) (i_PQ := i_PQ) (p_0 := p_0) (p_1 := p_1) (p_2 := p_2) (p_3 := p_3) (p_4 := p_4) (p_5 := p_5) (p_6 := p_6) (p_7 := p_7) (p_8 := p_8) (p_9 := p_9) L G222 A223 (p) (ln2_224) (fk2_225) (sy2_30) (na2_31) (ec2_34) gL_0 gL_1 hW226 hF231 hP232 hS233 hV234 hK235 ((e228)) ((e229)) (((hF227.1 19 rfl).trans ((hF198.1 19 rfl).trans ((hF167.1 19 rfl).trans ((hF140.1 19 rfl).trans (e45)))))) (((hF227.1 28 rfl).trans ((hF198.1 28 rfl).trans ((hF167.1 28 rfl).trans ((hF140.1 28 rfl).trans (e46)))))) (ec239) (((hF227.1 29 rfl).trans ((hF198.1 29 rfl).trans ((hF167.1 29 rfl).trans (hF140.1 29 rfl))))) (((hF227.1 46 rfl).trans ((hF198.1 46 rfl).trans ((hF167.1 46 rfl).trans ((hF140.1 46 rfl).trans ((hF36.1 46 rfl).trans (fx_46))))))) (by omega) (by omega) (by omega) (by omega) (by omega) (by omega) (by omega) (by omega)
              · have _q : True := trivial
                refine jx_ld (pc' := 324) (l' := L) (st' := [.ref 66]) rfl (jl_aloadn gL_0) ?_
                refine jx_vr (pc' := 327) (as := []) (st := []) rfl rfl rfl rfl ⟨rfl, rfl, Nat.le_of_ble_eq_true rfl⟩ rfl rfl (c_endLine (dd := d) (hd := by omega) (hW := hW197)  (ln := ln2_26) (e_ln := show G192 9 = ln2_26 from ((hF198.1 9 rfl).trans ((hF167.1 9 rfl).trans ((hF140.1 9 rfl).trans (e41))))) (li := li) (e_li := show G192 3 = li from ((hF198.1 3 rfl).trans ((hF167.1 3 rfl).trans ((hF140.1 3 rfl).trans ((hF36.1 3 rfl).trans ((hFx.1 3 rfl).trans (e_li))))))) (fk := fk2_196) (e_fk := show G192 16 = fk2_196 from (e201)) (tk0 := tk2_195) (e_tk0 := show G192 11 = tk2_195 from (e200))    (p_0 := by omega)) (fun o V' hq => ?_)
                obtain ⟨G247, A248, ln2_249, fk2_250, rfl, rfl, hW251, hF252, e253, e254, q255⟩ := hq
                have hF256 := Fr_tr hF205 hF252 (Fr_sub (by decide)) (Fr_sub (by decide))
                have hP257 := Pf_f hP206 hF252 (by decide)
                have hS258 := Fx_f hS207 hF252 (by decide)
                have hV259 := Fx_f hV208 hF252 (by decide)
                have hK260 := Fx_f hK209 hF252 (by decide)
                have sf261 : wM A248 (sy + 1) (many) := wM_fx (Sg_fr (sb := sy + 1 + many) hF252 (by decide)) (by omega) (by omega) sf210
                have sf262 : wP A248 (sy2_30) pb (18) (Vd Vs (sy + 1) sy1) (r25) (nd) (nd2_29) (sy1) (sy2_30) := wP_ag (Sg_fr hF252 (by decide)) (Qg_fr hF252 (by decide)) (by omega) (by omega) (Ax_ag (Ag_fr hF252 (by decide))) sf211
                have sf263 : NX A248 (r25) := NX_ag (by omega) (Ag_fr hF252 (by decide)) sf212
                have ec264 : ecn A248 (G247 31) = ec2_34 := (ecn_f (hF252.2 15 rfl) (hF252.1 31 rfl)).trans ec213
                have bln2_249 : (0 : Int) ≤ ln2_249 ∧ ln2_249 ≤ 3000 := e253 ▸ hW251.1 9
                have bfk2_250 : (0 : Int) ≤ fk2_250 ∧ fk2_250 ≤ 6 := e254 ▸ hW251.1 16
                refine .inl ⟨rfl, ?_⟩
                rcases q255 with ⟨a265, a266, a267, a268, a269⟩ | ⟨a270, a271⟩
                · have _q : True := trivial
                  have b272 : (0 : Int) ≤ A 3 (ln2_249).toNat ∧ A 3 (ln2_249).toNat ≤ 3000 := hW.2 3 _
                  have lt273 : ln2_249 < li → A 4 (ln2_26).toNat < A 3 (ln2_249).toNat := fun hh => LT_nx (LT_ext (((hF252.1 3 rfl).trans ((hF198.1 3 rfl).trans ((hF167.1 3 rfl).trans ((hF140.1 3 rfl).trans ((hF36.1 3 rfl).trans (hFx.1 3 rfl))))))) (((hF252.2 3 rfl).trans ((hF198.2 3 rfl).trans ((hF167.2 3 rfl).trans ((hF140.2 3 rfl).trans (((congrFun eA118 3).trans (uA_ne (by decide))).trans ((hF36.2 3 rfl).trans (hFx.2 3 rfl)))))))) (((hF252.2 4 rfl).trans ((hF198.2 4 rfl).trans ((hF167.2 4 rfl).trans ((hF140.2 4 rfl).trans (((congrFun eA118 4).trans (uA_ne (by decide))).trans ((hF36.2 4 rfl).trans (hFx.2 4 rfl)))))))) i_LT) (show G247 3 = li from ((hF252.1 3 rfl).trans ((hF198.1 3 rfl).trans ((hF167.1 3 rfl).trans ((hF140.1 3 rfl).trans ((hF36.1 3 rfl).trans ((hFx.1 3 rfl).trans (e_li)))))))) (show A248 4 (ln2_26).toNat = A 4 (ln2_26).toNat from (congrFun ((hF252.2 4 rfl).trans ((hF198.2 4 rfl).trans ((hF167.2 4 rfl).trans ((hF140.2 4 rfl).trans (((congrFun eA118 4).trans (uA_ne (by decide))).trans ((hF36.2 4 rfl).trans (hFx.2 4 rfl))))))) _)) (show A248 3 (ln2_249).toNat = A 3 (ln2_249).toNat from (congrFun ((hF252.2 3 rfl).trans ((hF198.2 3 rfl).trans ((hF167.2 3 rfl).trans ((hF140.2 3 rfl).trans (((congrFun eA118 3).trans (uA_ne (by decide))).trans ((hF36.2 3 rfl).trans (hFx.2 3 rfl))))))) _)) (show ln2_249 = ln2_26 + 1 by omega) (by omega) hh
                  refine jx_ld (pc' := 328) (l' := L) (st' := [.ref 66]) rfl (jl_aloadn gL_0) ?_
                  refine jx_ld (pc' := 329) (l' := L) (st' := [.int (i32 (p)), .ref 66]) rfl (jl_iloadn gL_1) ?_
                  refine jx_vr (pc' := 332) (as := [.int (i32 (p))]) (st := []) rfl rfl rfl rfl ⟨rfl, rfl, Nat.le_of_ble_eq_true rfl⟩ rfl rfl (c_show (dd := d) (hd := by omega) (hW := hW251) (s := p) (vi := vi) (e_vi := show G247 29 = vi from ((hF252.1 29 rfl).trans ((hF198.1 29 rfl).trans ((hF167.1 29 rfl).trans (hF140.1 29 rfl)))))  (h_s := ⟨(Int.le_trans (by decide : (-2147483648 : Int) ≤ -2147483648) rx_p.1), (Int.le_trans rx_p.2 (by decide : (2147483647 : Int) ≤ 2147483647))⟩)  (p_0 := by omega) (p_1 := by omega)) (fun o V' hq => ?_)
                  obtain ⟨G274, A275, vi2_276, sv2_277, rfl, rfl, hW278, hF279, hQ280, e281, e282, p283, p284, -⟩ := hq
                  have hF286 := Fr_tr hF256 hF279 (Fr_sub (by decide)) (Fr_sub (by decide))
                  have hP287 := Pf_f hP257 hF279 (by decide)
                  have hS288 := Fx_f hS258 hF279 (by decide)
                  have hV289 := Fx_tr hV259 hQ280 (by omega)
                  have hK290 := Fx_f hK260 hF279 (by decide)
                  have sf291 : wM A275 (sy + 1) (many) := wM_fx (Sg_fr (sb := sy + 1 + many) hF279 (by decide)) (by omega) (by omega) sf261
                  have sf292 : wP A275 (sy2_30) pb (18) (Vd Vs (sy + 1) sy1) (r25) (nd) (nd2_29) (sy1) (sy2_30) := wP_ag (Sg_fr hF279 (by decide)) (Qg_fr hF279 (by decide)) (by omega) (by omega) (Ax_ag (Ag_fr hF279 (by decide))) sf262
                  have sf293 : NX A275 (r25) := NX_ag (by omega) (Ag_fr hF279 (by decide)) sf263
                  have ec294 : ecn A275 (G274 31) = ec2_34 := (ecn_f (hF279.2 15 rfl) (hF279.1 31 rfl)).trans ec264
                  have bvi2_276 : (0 : Int) ≤ vi2_276 ∧ vi2_276 ≤ 202 := e281 ▸ hW278.1 29
                  have bsv2_277 : (0 : Int) ≤ sv2_277 ∧ sv2_277 ≤ 201 := e282 ▸ hW278.2 14 _
                  refine .inl ⟨rfl, ?_⟩
                  refine jx_ld (pc' := 333) (l' := L) (st' := [.ref 66]) rfl (jl_aloadn gL_0) ?_
                  refine jx_ar (pc' := 334) (st' := [.ref 66, .ref 66]) rfl rfl rfl rfl ?_
                  refine jr_get (pc' := 337) (i := 46) (v := .int (i32 (pc0))) rfl rfl (by decide) (rFv_eq (by decide) (show G274 46 = pc0 from ((hF279.1 46 rfl).trans ((hF252.1 46 rfl).trans ((hF198.1 46 rfl).trans ((hF167.1 46 rfl).trans ((hF140.1 46 rfl).trans ((hF36.1 46 rfl).trans (fx_46))))))))) rfl ?_
                  refine jx_ar (pc' := 338) (st' := [.int (i32 (1)), .int (i32 (pc0)), .ref 66]) rfl rfl rfl rfl ?_
                  refine jx_add (pc' := 339) rfl rfl ?_
                  refine jr_put (pc' := 342) (i := 46) (z := (pc0 + 1)) rfl rfl (by decide) rfl rfl rfl rfl rfl rfl ?_
                  have hW295 : Wk (uG G274 46 ((pc0 + 1))) A275 := Wk_g hW278 (show (0 : Int) ≤ (pc0 + 1) by omega) (show (pc0 + 1) ≤ (24 : Int) by omega)
                  have hF296 := Fr_g (z := (pc0 + 1)) (i := 46) hF286 (by decide)
                  have ec297 : ecn A275 ((uG G274 46 ((pc0 + 1))) 31) = ec2_34 := ec294
                  refine jx_rt (v := none) rfl rfl rfl rfl rfl rfl ?_
                  exact ⟨_, _, ln2_249, at2_194, fk2_250, nd2_29, sy2_30, na2_31, vi2_276, A 3 (ln2_249).toNat, (pc0 + 1), ec2_34, rfl, rfl, hW295, hF296, hP287, hS288, hV289, hK290, ((hF279.1 9 rfl).trans (e253)), ((hF279.1 10 rfl).trans ((hF252.1 10 rfl).trans (e199))), ((hF279.1 16 rfl).trans (e254)), ((hF279.1 31 rfl).trans ((hF252.1 31 rfl).trans ((hF198.1 31 rfl).trans ((hF167.1 31 rfl).trans ((hF140.1 31 rfl).trans (e44)))))), ((hF279.1 19 rfl).trans ((hF252.1 19 rfl).trans ((hF198.1 19 rfl).trans ((hF167.1 19 rfl).trans ((hF140.1 19 rfl).trans (e45)))))), ((hF279.1 28 rfl).trans ((hF252.1 28 rfl).trans ((hF198.1 28 rfl).trans ((hF167.1 28 rfl).trans ((hF140.1 28 rfl).trans (e46)))))), (e281), (congrFun ((hF279.2 3 rfl).trans ((hF252.2 3 rfl).trans ((hF198.2 3 rfl).trans ((hF167.2 3 rfl).trans ((hF140.2 3 rfl).trans (((congrFun eA118 3).trans (uA_ne (by decide))).trans ((hF36.2 3 rfl).trans (hFx.2 3 rfl)))))))) _), rfl, ec297, by omega, by omega, by omega, by omega, by first | exact Or.inr ((⟨by omega, by omega, by omega, by omega, by omega, by omega, by omega, by omega, (wQ_mk (m := many) (pb := pb) (by omega) (by omega) (wQ_fx hP287 hS288 (Fx_su hK290 (by omega)) p_8) (by omega) (by omega) (by omega) (by omega) (by omega) ((show A275 7 (sy).toNat = kp1 from (congrFun ((hF279.2 7 rfl).trans ((hF252.2 7 rfl).trans ((hF198.2 7 rfl).trans ((hF167.2 7 rfl).trans ((hF140.2 7 rfl).trans ((congrFun eA118 7).trans (uA_ne (by decide)))))))) _).trans (k65)).trans (by omega : kp1 = 14)) ((show A275 12 (sy).toNat = np1 from (congrFun ((hF279.2 12 rfl).trans ((hF252.2 12 rfl).trans ((hF198.2 12 rfl).trans ((hF167.2 12 rfl).trans ((hF140.2 12 rfl).trans ((congrFun eA118 12).trans (uA_ne (by decide)))))))) _).trans (k66)).trans (by omega : np1 = pc0)) ((show A275 29 (pc0).toNat = pp1 from (congrFun ((hF279.2 29 rfl).trans ((hF252.2 29 rfl).trans ((hF198.2 29 rfl).trans ((hF167.2 29 rfl).trans ((hF140.2 29 rfl).trans (((congrFun eA118 29).trans (uA_ne (by decide))).trans (hF36.2 29 rfl))))))) _).trans (ex_pp1)).trans (by omega : pp1 = sy + 1)) ((show A275 30 (pc0).toNat = mp1 from (congrFun ((hF279.2 30 rfl).trans ((hF252.2 30 rfl).trans ((hF198.2 30 rfl).trans ((hF167.2 30 rfl).trans ((hF140.2 30 rfl).trans (((congrFun eA118 30).trans (uA_ne (by decide))).trans (hF36.2 30 rfl))))))) _).trans (ex_mp1)).trans (by omega : mp1 = many)) (show A275 31 (pc0).toNat = r25 from (congrFun ((hF279.2 31 rfl).trans ((hF252.2 31 rfl).trans ((hF198.2 31 rfl).trans ((hF167.2 31 rfl).trans (hF140.2 31 rfl))))) _).trans (q121)) sf291 (VT_fx hS288 (by omega) p_9) (by omega) sf292), (SV_sw (SV_show (w := sy2_30) i_SV e_vi (show (uG G274 46 ((pc0 + 1))) 29 = vi2_276 from (e281)) (by omega) hV289 ((show A275 14 (vi).toNat = sv2_277 from (e282)).trans (by omega : sv2_277 = sy)) (by omega) (by omega) (by omega) (by omega)) (show (uG G274 46 ((pc0 + 1))) 29 = vi2_276 from (e281))), (PQ_proc (s1 := sy2_30) i_PQ hS288 (by omega) (by omega) (Fx_su hK290 (by omega)) (by omega) (by omega) (by omega) (((show A275 12 (sy).toNat = np1 from (congrFun ((hF279.2 12 rfl).trans ((hF252.2 12 rfl).trans ((hF198.2 12 rfl).trans ((hF167.2 12 rfl).trans ((hF140.2 12 rfl).trans ((congrFun eA118 12).trans (uA_ne (by decide)))))))) _).trans (k66)).trans (by omega : np1 = pc0)).trans (by omega)) (by rw [show pb = pc0 by omega, ((show A275 30 (pc0).toNat = mp1 from (congrFun ((hF279.2 30 rfl).trans ((hF252.2 30 rfl).trans ((hF198.2 30 rfl).trans ((hF167.2 30 rfl).trans ((hF140.2 30 rfl).trans (((congrFun eA118 30).trans (uA_ne (by decide))).trans (hF36.2 30 rfl))))))) _).trans (ex_mp1)).trans (by omega : mp1 = many))]; omega) (by rw [show pb = pc0 by omega, ((show A275 30 (pc0).toNat = mp1 from (congrFun ((hF279.2 30 rfl).trans ((hF252.2 30 rfl).trans ((hF198.2 30 rfl).trans ((hF167.2 30 rfl).trans ((hF140.2 30 rfl).trans (((congrFun eA118 30).trans (uA_ne (by decide))).trans (hF36.2 30 rfl))))))) _).trans (ex_mp1)).trans (by omega : mp1 = many))]; omega) (by rw [show pb = pc0 by omega]; exact ((show A275 29 (pc0).toNat = pp1 from (congrFun ((hF279.2 29 rfl).trans ((hF252.2 29 rfl).trans ((hF198.2 29 rfl).trans ((hF167.2 29 rfl).trans ((hF140.2 29 rfl).trans (((congrFun eA118 29).trans (uA_ne (by decide))).trans (hF36.2 29 rfl))))))) _).trans (ex_pp1)).trans (by omega : pp1 = sy + 1))) (by rw [show pb = pc0 by omega, ((show A275 30 (pc0).toNat = mp1 from (congrFun ((hF279.2 30 rfl).trans ((hF252.2 30 rfl).trans ((hF198.2 30 rfl).trans ((hF167.2 30 rfl).trans ((hF140.2 30 rfl).trans (((congrFun eA118 30).trans (uA_ne (by decide))).trans (hF36.2 30 rfl))))))) _).trans (ex_mp1)).trans (by omega : mp1 = many))]; omega) (by rw [show pb = pc0 by omega, ((show A275 30 (pc0).toNat = mp1 from (congrFun ((hF279.2 30 rfl).trans ((hF252.2 30 rfl).trans ((hF198.2 30 rfl).trans ((hF167.2 30 rfl).trans ((hF140.2 30 rfl).trans (((congrFun eA118 30).trans (uA_ne (by decide))).trans (hF36.2 30 rfl))))))) _).trans (ex_mp1)).trans (by omega : mp1 = many))]; exact sf291) hvb), (VT_u (VT_fx hS288 (by omega) p_9) (by omega) (by omega) ((show A275 7 (sy).toNat = kp1 from (congrFun ((hF279.2 7 rfl).trans ((hF252.2 7 rfl).trans ((hF198.2 7 rfl).trans ((hF167.2 7 rfl).trans ((hF140.2 7 rfl).trans ((congrFun eA118 7).trans (uA_ne (by decide)))))))) _).trans (k65)).trans (by omega : kp1 = 14))), by omega⟩))⟩
                · have _q : True := trivial
                  exact c_readProc_w_at_327p (X := X) (d := d) (Vs := Vs) (sb := sb) (pb := pb) (hvb := hvb) (c0 := c0) (c1 := c1) (G := G) (A := A) (T := T) (ln := ln) (li := li) (at0 := at0) (fk := fk) (nd := nd) (sy := sy) (na := na) (vi := vi) (le := le) (op0 := op0) (tk0 := tk0) (pc0 := pc0) (ec := ec) (hd := hd) (hW := hW) (e_ln := e_ln) (e_li := e_li) (e_at0 := e_at0) (e_fk := e_fk) (e_nd := e_nd) (e_sy := e_sy) (e_na := e_na) (e_vi := e_vi) (e_le := e_le) (e_op0 := e_op0) (e_tk0 := e_tk0) (e_pc0 := e_pc0) (e_ec := e_ec) (i_LT := i_LT) (i_SV := i_SV) (i_PQ := i_PQ) (p_0 := p_0) (p_1 := p_1) (p_2 := p_2) (p_3 := p_3) (p_4 := p_4) (p_5 := p_5) (p_6 := p_6) (p_7 := p_7) (p_8 := p_8) (p_9 := p_9) L G247 A248 (p) (ln2_249) (fk2_250) (sy2_30) (na2_31) (ec2_34) gL_0 gL_1 hW251 hF256 hP257 hS258 hV259 hK260 ((e253)) ((e254)) (((hF252.1 19 rfl).trans ((hF198.1 19 rfl).trans ((hF167.1 19 rfl).trans ((hF140.1 19 rfl).trans (e45)))))) (((hF252.1 28 rfl).trans ((hF198.1 28 rfl).trans ((hF167.1 28 rfl).trans ((hF140.1 28 rfl).trans (e46)))))) (ec264) (((hF252.1 29 rfl).trans ((hF198.1 29 rfl).trans ((hF167.1 29 rfl).trans (hF140.1 29 rfl))))) (((hF252.1 46 rfl).trans ((hF198.1 46 rfl).trans ((hF167.1 46 rfl).trans ((hF140.1 46 rfl).trans ((hF36.1 46 rfl).trans (fx_46))))))) (by omega) (by omega) (by omega) (by omega) (by omega) (by omega) (by omega) (by omega)
            · have _q : True := trivial
              refine jx_vr (pc' := 323) (as := [.int (i32 (0))]) (st := []) rfl rfl rfl rfl ⟨rfl, rfl, Nat.le_of_ble_eq_true rfl⟩ rfl rfl (c_need (dd := d) (hd := by omega) (hW := hW166) (g := 0) (ln := ln2_26) (e_ln := show G161 9 = ln2_26 from ((hF167.1 9 rfl).trans ((hF140.1 9 rfl).trans (e41)))) (le := A 4 (ln2_26).toNat) (e_le := show A162 4 (ln2_26).toNat = A 4 (ln2_26).toNat from (congrFun ((hF167.2 4 rfl).trans ((hF140.2 4 rfl).trans (((congrFun eA118 4).trans (uA_ne (by decide))).trans ((hF36.2 4 rfl).trans (hFx.2 4 rfl))))) _)) (at0 := at2_163) (e_at0 := show G161 10 = at2_163 from (e168)) (fk := fk2_138) (e_fk := show G161 16 = fk2_138 from ((hF167.1 16 rfl).trans (e142))) (tk0 := tk2_164) (e_tk0 := show G161 11 = tk2_164 from (e169))  (h_g := ⟨(by decide), (by decide)⟩)  (p_0 := by omega)) (fun o V' hq => ?_)
              obtain ⟨G298, A299, at2_300, tk2_301, fk2_302, rfl, rfl, hW303, hF304, e305, e306, e307, p308, p309, q310⟩ := hq
              have hF311 := Fr_tr hF176 hF304 (Fr_sub (by decide)) (Fr_sub (by decide))
              have hP312 := Pf_f hP177 hF304 (by decide)
              have hS313 := Fx_f hS178 hF304 (by decide)
              have hV314 := Fx_f hV179 hF304 (by decide)
              have hK315 := Fx_f hK180 hF304 (by decide)
              have sf316 : wM A299 (sy + 1) (many) := wM_fx (Sg_fr (sb := sy + 1 + many) hF304 (by decide)) (by omega) (by omega) sf181
              have sf317 : wP A299 (sy2_30) pb (18) (Vd Vs (sy + 1) sy1) (r25) (nd) (nd2_29) (sy1) (sy2_30) := wP_ag (Sg_fr hF304 (by decide)) (Qg_fr hF304 (by decide)) (by omega) (by omega) (Ax_ag (Ag_fr hF304 (by decide))) sf182
              have sf318 : NX A299 (r25) := NX_ag (by omega) (Ag_fr hF304 (by decide)) sf183
              have ec319 : ecn A299 (G298 31) = ec2_34 := (ecn_f (hF304.2 15 rfl) (hF304.1 31 rfl)).trans ec184
              have bat2_300 : (0 : Int) ≤ at2_300 ∧ at2_300 ≤ 3002 := e305 ▸ hW303.1 10
              have ztk2_301 := tz_b tk2_301
              have btk2_301 : (0 : Int) ≤ tk2_301 ∧ tk2_301 ≤ 5 := e306 ▸ hW303.1 11
              have bfk2_302 : (0 : Int) ≤ fk2_302 ∧ fk2_302 ≤ 6 := e307 ▸ hW303.1 16
              refine .inl ⟨rfl, ?_⟩
              rcases q310 with ⟨a320, a321, a322, a323⟩ | ⟨a324, a325, a326, a327⟩
              · have _q : True := trivial
                refine jx_ld (pc' := 324) (l' := L) (st' := [.ref 66]) rfl (jl_aloadn gL_0) ?_
                refine jx_vr (pc' := 327) (as := []) (st := []) rfl rfl rfl rfl ⟨rfl, rfl, Nat.le_of_ble_eq_true rfl⟩ rfl rfl (c_endLine (dd := d) (hd := by omega) (hW := hW303)  (ln := ln2_26) (e_ln := show G298 9 = ln2_26 from ((hF304.1 9 rfl).trans ((hF167.1 9 rfl).trans ((hF140.1 9 rfl).trans (e41))))) (li := li) (e_li := show G298 3 = li from ((hF304.1 3 rfl).trans ((hF167.1 3 rfl).trans ((hF140.1 3 rfl).trans ((hF36.1 3 rfl).trans ((hFx.1 3 rfl).trans (e_li))))))) (fk := fk2_302) (e_fk := show G298 16 = fk2_302 from (e307)) (tk0 := tk2_301) (e_tk0 := show G298 11 = tk2_301 from (e306))    (p_0 := by omega)) (fun o V' hq => ?_)
                obtain ⟨G328, A329, ln2_330, fk2_331, rfl, rfl, hW332, hF333, e334, e335, q336⟩ := hq
                have hF337 := Fr_tr hF311 hF333 (Fr_sub (by decide)) (Fr_sub (by decide))
                have hP338 := Pf_f hP312 hF333 (by decide)
                have hS339 := Fx_f hS313 hF333 (by decide)
                have hV340 := Fx_f hV314 hF333 (by decide)
                have hK341 := Fx_f hK315 hF333 (by decide)
                have sf342 : wM A329 (sy + 1) (many) := wM_fx (Sg_fr (sb := sy + 1 + many) hF333 (by decide)) (by omega) (by omega) sf316
                have sf343 : wP A329 (sy2_30) pb (18) (Vd Vs (sy + 1) sy1) (r25) (nd) (nd2_29) (sy1) (sy2_30) := wP_ag (Sg_fr hF333 (by decide)) (Qg_fr hF333 (by decide)) (by omega) (by omega) (Ax_ag (Ag_fr hF333 (by decide))) sf317
                have sf344 : NX A329 (r25) := NX_ag (by omega) (Ag_fr hF333 (by decide)) sf318
                have ec345 : ecn A329 (G328 31) = ec2_34 := (ecn_f (hF333.2 15 rfl) (hF333.1 31 rfl)).trans ec319
                have bln2_330 : (0 : Int) ≤ ln2_330 ∧ ln2_330 ≤ 3000 := e334 ▸ hW332.1 9
                have bfk2_331 : (0 : Int) ≤ fk2_331 ∧ fk2_331 ≤ 6 := e335 ▸ hW332.1 16
                refine .inl ⟨rfl, ?_⟩
                rcases q336 with ⟨a346, a347, a348, a349, a350⟩ | ⟨a351, a352⟩
                · have _q : True := trivial
                  exfalso
                  omega
                · have _q : True := trivial
                  exact c_readProc_w_at_327p (X := X) (d := d) (Vs := Vs) (sb := sb) (pb := pb) (hvb := hvb) (c0 := c0) (c1 := c1) (G := G) (A := A) (T := T) (ln := ln) (li := li) (at0 := at0) (fk := fk) (nd := nd) (sy := sy) (na := na) (vi := vi) (le := le) (op0 := op0) (tk0 := tk0) (pc0 := pc0) (ec := ec) (hd := hd) (hW := hW) (e_ln := e_ln) (e_li := e_li) (e_at0 := e_at0) (e_fk := e_fk) (e_nd := e_nd) (e_sy := e_sy) (e_na := e_na) (e_vi := e_vi) (e_le := e_le) (e_op0 := e_op0) (e_tk0 := e_tk0) (e_pc0 := e_pc0) (e_ec := e_ec) (i_LT := i_LT) (i_SV := i_SV) (i_PQ := i_PQ) (p_0 := p_0) (p_1 := p_1) (p_2 := p_2) (p_3 := p_3) (p_4 := p_4) (p_5 := p_5) (p_6 := p_6) (p_7 := p_7) (p_8 := p_8) (p_9 := p_9) L G328 A329 (p) (ln2_330) (fk2_331) (sy2_30) (na2_31) (ec2_34) gL_0 gL_1 hW332 hF337 hP338 hS339 hV340 hK341 ((e334)) ((e335)) (((hF333.1 19 rfl).trans ((hF304.1 19 rfl).trans ((hF167.1 19 rfl).trans ((hF140.1 19 rfl).trans (e45)))))) (((hF333.1 28 rfl).trans ((hF304.1 28 rfl).trans ((hF167.1 28 rfl).trans ((hF140.1 28 rfl).trans (e46)))))) (ec345) (((hF333.1 29 rfl).trans ((hF304.1 29 rfl).trans ((hF167.1 29 rfl).trans (hF140.1 29 rfl))))) (((hF333.1 46 rfl).trans ((hF304.1 46 rfl).trans ((hF167.1 46 rfl).trans ((hF140.1 46 rfl).trans ((hF36.1 46 rfl).trans (fx_46))))))) (by omega) (by omega) (by omega) (by omega) (by omega) (by omega) (by omega) (by omega)
              · have _q : True := trivial
                exfalso
                omega
        · have _q : True := trivial
          refine jx_if_eq (pc' := 309) (tg := 327) rfl rfl rfl (by decide) (by decide) (fun h353 => ?_) (fun h353 => ?_)
          · have _q := h353
            exact c_readProc_w_at_327p (X := X) (d := d) (Vs := Vs) (sb := sb) (pb := pb) (hvb := hvb) (c0 := c0) (c1 := c1) (G := G) (A := A) (T := T) (ln := ln) (li := li) (at0 := at0) (fk := fk) (nd := nd) (sy := sy) (na := na) (vi := vi) (le := le) (op0 := op0) (tk0 := tk0) (pc0 := pc0) (ec := ec) (hd := hd) (hW := hW) (e_ln := e_ln) (e_li := e_li) (e_at0 := e_at0) (e_fk := e_fk) (e_nd := e_nd) (e_sy := e_sy) (e_na := e_na) (e_vi := e_vi) (e_le := e_le) (e_op0 := e_op0) (e_tk0 := e_tk0) (e_pc0 := e_pc0) (e_ec := e_ec) (i_LT := i_LT) (i_SV := i_SV) (i_PQ := i_PQ) (p_0 := p_0) (p_1 := p_1) (p_2 := p_2) (p_3 := p_3) (p_4 := p_4) (p_5 := p_5) (p_6 := p_6) (p_7 := p_7) (p_8 := p_8) (p_9 := p_9) L G135 A136 (p) (ln2_26) (fk2_138) (sy2_30) (na2_31) (ec2_34) gL_0 gL_1 hW139 hF144 hP145 hS146 hV147 hK148 (((hF140.1 9 rfl).trans (e41))) ((e142)) (((hF140.1 19 rfl).trans (e45))) (((hF140.1 28 rfl).trans (e46))) (ec152) ((hF140.1 29 rfl)) (((hF140.1 46 rfl).trans ((hF36.1 46 rfl).trans (fx_46)))) (by omega) (by omega) (by omega) (by omega) (by omega) (by omega) (by omega) (by omega)
          · have _q := h353
            exact absurd h353 (by omega)
    · have _q := h22
      refine jx_ld (pc' := 260) (l' := L) (st' := [.ref 66]) rfl (jl_aloadn gL_0) ?_
      refine jx_ld (pc' := 261) (l' := L) (st' := [.ref 66, .ref 66]) rfl (jl_aloadn gL_0) ?_
      refine jr_get (pc' := 264) (i := 47) (v := .ref 96) rfl rfl (by decide) rfl rfl ?_
      refine jx_ld (pc' := 265) (l' := L) (st' := [.ref 66, .ref 96, .ref 66]) rfl (jl_aloadn gL_0) ?_
      refine jr_get (pc' := 268) (i := 46) (v := .int (i32 (pc0))) rfl rfl (by decide) (rFv_eq (by decide) (show Gx 46 = pc0 from (fx_46))) rfl ?_
      refine jr_ldv (pc' := 269) (i := 29) (m := 25) (z := pc0) (y := pp1) rfl (by decide) rfl (by decide) (Int.le_trans (by decide : (0 : Int) ≤ 0) b_pc0.1) (Int.lt_of_le_of_lt b_pc0.2 (by decide : (24 : Int) < ((25 : Nat) : Int))) rfl (show Ax 29 (pc0).toNat = pp1 from (ex_pp1)) ?_
      refine jx_ld (pc' := 271) (l' := L) (st' := [.int (i32 (kk)), .int (i32 (pp1)), .ref 66]) rfl (jl_iload gL_5) ?_
      refine jx_add (pc' := 272) rfl rfl ?_
      refine jx_vr (pc' := 275) (as := [.int (i32 ((pp1 + kk)))]) (st := []) rfl rfl rfl rfl ⟨rfl, rfl, Nat.le_of_ble_eq_true rfl⟩ rfl rfl (c_show (dd := d) (hd := by omega) (hW := hWx) (s := (pp1 + kk)) (vi := vi1) (e_vi := show Gx 29 = vi1 from (ex_vi1))  (h_s := ⟨(by omega), (by omega)⟩)  (p_0 := by omega) (p_1 := by omega)) (fun o V' hq => ?_)
      obtain ⟨G354, A355, vi2_356, sv2_357, rfl, rfl, hW358, hF359, hQ360, e361, e362, p363, p364, -⟩ := hq
      have hF366 := Fr_tr hFx hF359 (Fr_sub (by decide)) (Fr_sub (by decide))
      have hP367 := Pf_f hPx hF359 (by decide)
      have hS368 := Fx_f hSx hF359 (by decide)
      have hV369 := Fx_tr hVx hQ360 (by omega)
      have hK370 := Fx_f hKx hF359 (by decide)
      have sf371 : wM A355 (sy + 1) (many) := wM_fx (Sg_fr (sb := sy + 1 + many) hF359 (by decide)) (by omega) (by omega) iv_10
      have sf372 : DS A355 (vi) (vi1) (sy + 1) (sy1) := DS_fx hQ360 (by omega) iv_11
      have ec373 : ecn A355 (G354 31) = ec := (ecn_f (hF359.2 15 rfl) (hF359.1 31 rfl)).trans fx_900
      have bvi2_356 : (0 : Int) ≤ vi2_356 ∧ vi2_356 ≤ 202 := e361 ▸ hW358.1 29
      have bsv2_357 : (0 : Int) ≤ sv2_357 ∧ sv2_357 ≤ 201 := e362 ▸ hW358.2 14 _
      refine .inl ⟨rfl, ?_⟩
      refine jx_inc (pc' := 278) (l' := jSto1 L 5 (.int (i32 ((kk + (1)))))) (x := kk) rfl gL_5 (by decide) rfl rfl ?_
      obtain ⟨L374, eL374⟩ : ∃ q, q = jSto1 L 5 (.int (i32 ((kk + (1))))) := ⟨_, rfl⟩
      rw [← eL374]
      have gL374_0 : jGet L374 0 = some (.ref 66) := eL374 ▸ jg_ne (by decide) gL_0 rfl
      have gL374_4 : jGet L374 4 = some (.int (i32 (vi))) := eL374 ▸ jg_ne (by decide) gL_4 rfl
      have gL374_1 : jGet L374 1 = some (.int (i32 (p))) := eL374 ▸ jg_ne (by decide) gL_1 rfl
      have gL374_2 : jGet L374 2 = some (.int (i32 (many))) := eL374 ▸ jg_ne (by decide) gL_2 rfl
      have gL374_5 : jGet L374 5 = some (.int (i32 ((kk + (1))))) := eL374 ▸ jg_eq
      refine jx_go (tg := 253) rfl rfl ?_
      exact ih253 _ (by omega) L374 G354 A355 (p) (many) ((kk + (1))) (ln1) (at1) (fk1) (sy1) (na1) (vi2_356) (pp1) (mp1) (kp1) (np1) (lf1) rfl gL374_0 gL374_4 gL374_1 gL374_2 gL374_5 hW358 hF366 hP367 hS368 hV369 hK370 (((hF359.1 9 rfl).trans (ex_ln1))) (((hF359.1 10 rfl).trans (ex_at1))) (((hF359.1 16 rfl).trans (ex_fk1))) (((hF359.1 19 rfl).trans (ex_sy1))) (((hF359.1 28 rfl).trans (ex_na1))) ((e361)) ((congrFun (hF359.2 29 rfl) _).trans (ex_pp1)) ((congrFun (hF359.2 30 rfl) _).trans (ex_mp1)) ((congrFun (hF359.2 7 rfl) _).trans (ex_kp1)) ((congrFun (hF359.2 12 rfl) _).trans (ex_np1)) ((congrFun (hF359.2 3 rfl) _).trans (ex_lf1)) (((hF359.1 46 rfl).trans (fx_46))) (((hF359.1 31 rfl).trans (fx_31))) (ec373) (by omega) (by omega) (by omega) (by omega) (by omega) (by omega) (by omega) (by omega) (by omega) (by omega) (by omega) (by omega) (by omega) (sf371) ((DS_add sf372 (show A355 14 (vi1).toNat = sv2_357 from (e362)) (by omega) (by omega) (by omega) (by omega))) (by omega) (by omega) (by omega) (by omega) (by omega)
set_option maxRecDepth 20000 in
set_option maxHeartbeats 4000000 in
theorem c_readProc_w_at_212p {X : jX} {d : Nat} {Vs : Nat → Prop} {sb pb : Int} (hvb : VB Vs sb) {c0 c1 : jC} {G : Nat → Int} {A : Nat → Nat → Int} {T : jH} {ln li at0 fk nd sy na vi le op0 tk0 pc0 ec : Int} (hd : 8 * 18 + 81 ≤ d + 1) (hW : Wk G A) (e_ln : G 9 = ln) (e_li : G 3 = li) (e_at0 : G 10 = at0) (e_fk : G 16 = fk) (e_nd : G 31 = nd) (e_sy : G 19 = sy) (e_na : G 28 = na) (e_vi : G 29 = vi) (e_le : A 4 (ln).toNat = le) (e_op0 : G 15 = op0) (e_tk0 : G 11 = tk0) (e_pc0 : G 46 = pc0) (e_ec : ecn A (G 31) = ec) (i_LT : LT G A) (i_SV : SV Vs sb G A) (i_PQ : PQ Vs sb pb G A) (p_0 : fk = 0) (p_1 : ln < li) (p_2 : at0 ≤ le) (p_3 : nd ≤ 2 * at0 - tz tk0 + 30) (p_4 : sy ≤ na + 2) (p_5 : vi ≤ sy) (p_6 : sb ≤ sy) (p_7 : pb = pc0) (p_8 : wQ A (pc0).toNat (nd) (sy)) (p_9 : VT (Vs) A (sy)) : ∀ (L : jL) (Gx : Nat → Int) (Ax : Nat → Nat → Int) (p many at1 fk1 sy1 na1 : Int), jGet L 0 = some (.ref 66) → jGet L 1 = some (.int (i32 p)) → jGet L 2 = some (.int (i32 many)) → Wk Gx Ax → Fr [9, 10, 11, 12, 13, 14, 15, 16, 17, 18, 19, 28, 29, 31, 46] [6, 7, 8, 9, 10, 11, 12, 14, 15, 16, 17, 18, 19, 20, 21, 22, 23, 24, 28, 29, 30, 31] G A Gx Ax → Pf nd A Ax → Fx sr (sy) A Ax → Fx [14] (vi) A Ax → Fx [29, 30, 31] (pc0) A Ax → Gx 10 = at1 → Gx 16 = fk1 → Gx 19 = sy1 → Gx 28 = na1 → Gx 9 = ln → Gx 29 = vi → Gx 46 = pc0 → Gx 31 = nd → ecn Ax (Gx 31) = ec → ((-2147483648 : Int) ≤ p ∧ p ≤ 2147483647) → ((-2147483648 : Int) ≤ many ∧ many ≤ 2147483647) → (1 ≤ fk1) → (at0 ≤ at1) → (at1 ≤ le) → (sy ≤ sy1) → (sy1 ≤ na1 + 2) → (0 ≤ many ∧ many ≤ 6) → (pc0 ≤ 23) → wj X d jm308 (212, L, [], rV c0 c1 Gx Ax T) (fun o V' => ∃ (G' : Nat → Int) (A' : Nat → Nat → Int) (ln2 : Int) (at2 : Int) (fk2 : Int) (nd2 : Int) (sy2 : Int) (na2 : Int) (vi2 : Int) (lf2 : Int) (pc2 : Int) (ec2 : Int), V' = rV c0 c1 G' A' T ∧ o = .inl none ∧ Wk G' A' ∧ Fr [9, 10, 11, 12, 13, 14, 15, 16, 17, 18, 19, 28, 29, 31, 46] [6, 7, 8, 9, 10, 11, 12, 14, 15, 16, 17, 18, 19, 20, 21, 22, 23, 24, 28, 29, 30, 31] G A G' A' ∧ Pf nd A A' ∧ Fx sr (sy) A A' ∧ Fx [14] (vi) A A' ∧ Fx [29, 30, 31] (pc0) A A' ∧ G' 9 = ln2 ∧ G' 10 = at2 ∧ G' 16 = fk2 ∧ G' 31 = nd2 ∧ G' 19 = sy2 ∧ G' 28 = na2 ∧ G' 29 = vi2 ∧ A' 3 (ln2).toNat = lf2 ∧ G' 46 = pc2 ∧ ecn A' (G' 31) = ec2 ∧ (sy2 ≤ na2 + 2) ∧ (vi2 ≤ sy2) ∧ (ln ≤ ln2) ∧ (ln2 ≤ li) ∧ (((1 ≤ fk2)) ∨ ((fk2 = 0) ∧ (ln < ln2) ∧ (at0 ≤ at2) ∧ (pc2 = pc0 + 1) ∧ (nd2 - nd ≤ 2 * at2 - (2 * at0 - tz tk0)) ∧ (at2 < lf2 ∨ li ≤ ln2) ∧ (vi2 = vi + 1) ∧ (sy < sy2) ∧ (wQ A' (pc2).toNat (nd2) (sy2)) ∧ (SW (Vu Vs sy) (sy2) (vi2) A') ∧ (PQ (Vu Vs sy) (sy2) (pc2) (fun _ => 0) A') ∧ (VT (Vu Vs sy) A' (sy2)) ∧ (nd2 - nd + 5 * (ec2 - ec) ≤ 2 * at2 - (2 * at0 - tz tk0))))) := by
  have hF0 : Fr [9, 10, 11, 12, 13, 14, 15, 16, 17, 18, 19, 28, 29, 31, 46] [6, 7, 8, 9, 10, 11, 12, 14, 15, 16, 17, 18, 19, 20, 21, 22, 23, 24, 28, 29, 30, 31] G A G A := Fr_rf
  have hP0 : Pf nd A A := Pf_rf
  have hS0 : Fx sr (sy) A A := Fx_rf
  have hV0 : Fx [14] (vi) A A := Fx_rf
  have hK0 : Fx [29, 30, 31] (pc0) A A := Fx_rf
  have b_ln : (0 : Int) ≤ ln ∧ ln ≤ 3000 := e_ln ▸ hW.1 9
  have b_li : (0 : Int) ≤ li ∧ li ≤ 3000 := e_li ▸ hW.1 3
  have b_at0 : (0 : Int) ≤ at0 ∧ at0 ≤ 3002 := e_at0 ▸ hW.1 10
  have b_fk : (0 : Int) ≤ fk ∧ fk ≤ 6 := e_fk ▸ hW.1 16
  have b_nd : (0 : Int) ≤ nd ∧ nd ≤ 6999 := e_nd ▸ hW.1 31
  have b_sy : (0 : Int) ≤ sy ∧ sy ≤ 202 := e_sy ▸ hW.1 19
  have b_na : (0 : Int) ≤ na ∧ na ≤ 200 := e_na ▸ hW.1 28
  have b_vi : (0 : Int) ≤ vi ∧ vi ≤ 202 := e_vi ▸ hW.1 29
  have b_le : (0 : Int) ≤ le ∧ le ≤ 3000 := e_le ▸ hW.2 4 _
  have b_op0 : (-2147483648 : Int) ≤ op0 ∧ op0 ≤ 2147483647 := e_op0 ▸ hW.1 15
  have z_tk0 := tz_f tk0
  have b_tk0 : (0 : Int) ≤ tk0 ∧ tk0 ≤ 5 := e_tk0 ▸ hW.1 11
  have b_pc0 : (0 : Int) ≤ pc0 ∧ pc0 ≤ 24 := e_pc0 ▸ hW.1 46
  intro L Gx Ax p many at1 fk1 sy1 na1 gL_0 gL_1 gL_2 hWx hFx hPx hSx hVx hKx ex_at1 ex_fk1 ex_sy1 ex_na1 fx_9 fx_29 fx_46 fx_31 fx_900 rx_p rx_many iv_0 iv_1 iv_2 iv_3 iv_4 iv_5 iv_6
  have b_at1 : (0 : Int) ≤ at1 ∧ at1 ≤ 3002 := ex_at1 ▸ hWx.1 10
  have b_fk1 : (0 : Int) ≤ fk1 ∧ fk1 ≤ 6 := ex_fk1 ▸ hWx.1 16
  have b_sy1 : (0 : Int) ≤ sy1 ∧ sy1 ≤ 202 := ex_sy1 ▸ hWx.1 19
  have b_na1 : (0 : Int) ≤ na1 ∧ na1 ≤ 200 := ex_na1 ▸ hWx.1 28
  refine jx_ld (pc' := 213) (l' := L) (st' := [.ref 66]) rfl (jl_aloadn gL_0) ?_
  refine jr_get (pc' := 216) (i := 48) (v := .ref 97) rfl rfl (by decide) rfl rfl ?_
  refine jx_ld (pc' := 217) (l' := L) (st' := [.ref 66, .ref 97]) rfl (jl_aloadn gL_0) ?_
  refine jr_get (pc' := 220) (i := 46) (v := .int (i32 (pc0))) rfl rfl (by decide) (rFv_eq (by decide) (show Gx 46 = pc0 from (fx_46))) rfl ?_
  refine jx_ld (pc' := 221) (l' := L) (st' := [.int (i32 (many)), .int (i32 (pc0)), .ref 97]) rfl (jl_iloadn gL_2) ?_
  refine jr_st (pc' := 222) (i := 30) (m := 25) (z := pc0) (y := many) rfl (by decide) rfl (by decide) (by omega) (by omega) rfl ?_
  have hW376 : Wk Gx (uA Ax 30 (pc0).toNat (many)) := Wk_a hWx (show (0 : Int) ≤ many by omega) (show many ≤ (6 : Int) by omega)
  have hF377 := Fr_a (z := many) (k := 30) (n := (pc0).toNat) hFx (by decide)
  obtain ⟨A375, eA375⟩ : ∃ q, q = uA Ax 30 (pc0).toNat (many) := ⟨_, rfl⟩
  rw [← eA375]
  rw [← eA375] at hW376 hF377
  have q378 : A375 30 (pc0).toNat = many := by rw [eA375]; exact uA_eq
  have hP379 : Pf nd A A375 := eA375 ▸ Pf_n hPx rfl
  have hS380 : Fx sr (sy) A A375 := eA375 ▸ Fx_n hSx rfl
  have hV381 : Fx [14] (vi) A A375 := eA375 ▸ Fx_n hVx rfl
  have hK382 : Fx [29, 30, 31] (pc0) A A375 := eA375 ▸ Fx_a hKx (z := pc0) (by omega) (by omega)
  have ec383 : ecn A375 (Gx 31) = ec := (ecn_e ((congrFun eA375 15).trans (uA_ne (by decide)))).trans fx_900
  refine jx_ld (pc' := 223) (l' := L) (st' := [.ref 66]) rfl (jl_aloadn gL_0) ?_
  refine jx_ld (pc' := 224) (l' := L) (st' := [.ref 66, .ref 66]) rfl (jl_aloadn gL_0) ?_
  refine jx_ar (pc' := 226) (st' := [.int (i32 (41)), .ref 66, .ref 66]) rfl rfl rfl rfl ?_
  have b384 : (0 : Int) ≤ Gx 11 ∧ Gx 11 ≤ 5 := hWx.1 11
  have b385 : (-2147483648 : Int) ≤ Gx 13 ∧ Gx 13 ≤ 2147483647 := hWx.1 13
  refine jx_vr (pc' := 229) (as := [.int (i32 (41))]) (st := [.ref 66]) rfl rfl rfl rfl ⟨rfl, rfl, Nat.le_of_ble_eq_true rfl⟩ rfl rfl (c_is (dd := d) (hd := by omega) (hW := hW376) (k := 41) (tk := Gx 11) (e_tk := show Gx 11 = Gx 11 from rfl) (tn := Gx 13) (e_tn := show Gx 13 = Gx 13 from rfl)  (h_k := ⟨(by decide), (by decide)⟩)  ) (fun o V' hq => ?_)
  obtain ⟨r386, rfl, rfl, b387, q388⟩ := hq
  refine .inr ⟨_, rfl, ?_⟩
  rcases q388 with ⟨rfl, a389, a390, a391⟩ | rfl
  · have _q : True := trivial
    refine jx_vr (pc' := 232) (as := [.int (i32 (1))]) (st := []) rfl rfl rfl rfl ⟨rfl, rfl, Nat.le_of_ble_eq_true rfl⟩ rfl rfl (c_need (dd := d) (hd := by omega) (hW := hW376) (g := 1) (ln := ln) (e_ln := show Gx 9 = ln from (fx_9)) (le := le) (e_le := show A375 4 (ln).toNat = le from (congrFun (((congrFun eA375 4).trans (uA_ne (by decide))).trans (hFx.2 4 rfl)) _).trans (e_le)) (at0 := at1) (e_at0 := show Gx 10 = at1 from (ex_at1)) (fk := fk1) (e_fk := show Gx 16 = fk1 from (ex_fk1)) (tk0 := Gx 11) (e_tk0 := show Gx 11 = Gx 11 from rfl)  (h_g := ⟨(by decide), (by decide)⟩)  (p_0 := by omega)) (fun o V' hq => ?_)
    obtain ⟨G392, A393, at2_394, tk2_395, fk2_396, rfl, rfl, hW397, hF398, e399, e400, e401, p402, p403, q404⟩ := hq
    have hF405 := Fr_tr hF377 hF398 (Fr_sub (by decide)) (Fr_sub (by decide))
    have hP406 := Pf_f hP379 hF398 (by decide)
    have hS407 := Fx_f hS380 hF398 (by decide)
    have hV408 := Fx_f hV381 hF398 (by decide)
    have hK409 := Fx_f hK382 hF398 (by decide)
    have ec410 : ecn A393 (G392 31) = ec := (ecn_f (hF398.2 15 rfl) (hF398.1 31 rfl)).trans ec383
    have bat2_394 : (0 : Int) ≤ at2_394 ∧ at2_394 ≤ 3002 := e399 ▸ hW397.1 10
    have ztk2_395 := tz_b tk2_395
    have btk2_395 : (0 : Int) ≤ tk2_395 ∧ tk2_395 ≤ 5 := e400 ▸ hW397.1 11
    have bfk2_396 : (0 : Int) ≤ fk2_396 ∧ fk2_396 ≤ 6 := e401 ▸ hW397.1 16
    refine .inl ⟨rfl, ?_⟩
    rcases q404 with ⟨a411, a412, a413, a414⟩ | ⟨a415, a416, a417, a418⟩
    · have _q : True := trivial
      refine jx_ld (pc' := 233) (l' := L) (st' := [.ref 66]) rfl (jl_aloadn gL_0) ?_
      refine jx_vr (pc' := 236) (as := []) (st := []) rfl rfl rfl rfl ⟨rfl, rfl, Nat.le_of_ble_eq_true rfl⟩ rfl rfl (c_endLine (dd := d) (hd := by omega) (hW := hW397)  (ln := ln) (e_ln := show G392 9 = ln from ((hF398.1 9 rfl).trans (fx_9))) (li := li) (e_li := show G392 3 = li from ((hF398.1 3 rfl).trans ((hFx.1 3 rfl).trans (e_li)))) (fk := fk2_396) (e_fk := show G392 16 = fk2_396 from (e401)) (tk0 := tk2_395) (e_tk0 := show G392 11 = tk2_395 from (e400))    (p_0 := by omega)) (fun o V' hq => ?_)
      obtain ⟨G419, A420, ln2_421, fk2_422, rfl, rfl, hW423, hF424, e425, e426, q427⟩ := hq
      have hF428 := Fr_tr hF405 hF424 (Fr_sub (by decide)) (Fr_sub (by decide))
      have hP429 := Pf_f hP406 hF424 (by decide)
      have hS430 := Fx_f hS407 hF424 (by decide)
      have hV431 := Fx_f hV408 hF424 (by decide)
      have hK432 := Fx_f hK409 hF424 (by decide)
      have ec433 : ecn A420 (G419 31) = ec := (ecn_f (hF424.2 15 rfl) (hF424.1 31 rfl)).trans ec410
      have bln2_421 : (0 : Int) ≤ ln2_421 ∧ ln2_421 ≤ 3000 := e425 ▸ hW423.1 9
      have bfk2_422 : (0 : Int) ≤ fk2_422 ∧ fk2_422 ≤ 6 := e426 ▸ hW423.1 16
      refine .inl ⟨rfl, ?_⟩
      rcases q427 with ⟨a434, a435, a436, a437, a438⟩ | ⟨a439, a440⟩
      · have _q : True := trivial
        exfalso
        omega
      · have _q : True := trivial
        refine jx_ld (pc' := 237) (l' := L) (st' := [.ref 66]) rfl (jl_aloadn gL_0) ?_
        refine jx_vr (pc' := 240) (as := []) (st := []) rfl rfl rfl rfl ⟨rfl, rfl, Nat.le_of_ble_eq_true rfl⟩ rfl rfl (c_bad (dd := d) (hd := by omega) (hW := hW423)  (fk := fk2_422) (e_fk := show G419 16 = fk2_422 from (e426))    ) (fun o V' hq => ?_)
        obtain ⟨r441, rfl, rfl, b442, q443⟩ := hq
        refine .inr ⟨_, rfl, ?_⟩
        rcases q443 with ⟨rfl, a444⟩ | ⟨rfl, a445⟩
        · have _q : True := trivial
          refine jx_if_eq (pc' := 243) (tg := 244) rfl rfl rfl (by decide) (by decide) (fun h446 => ?_) (fun h446 => ?_)
          · have _q := h446
            exact absurd h446 (by omega)
          · have _q := h446
            refine jx_rt (v := none) rfl rfl rfl rfl rfl rfl ?_
            exact ⟨_, _, ln2_421, at2_394, fk2_422, nd, sy1, na1, vi, A 3 (ln2_421).toNat, pc0, ec, rfl, rfl, hW423, hF428, hP429, hS430, hV431, hK432, (e425), ((hF424.1 10 rfl).trans (e399)), (e426), ((hF424.1 31 rfl).trans ((hF398.1 31 rfl).trans (fx_31))), ((hF424.1 19 rfl).trans ((hF398.1 19 rfl).trans (ex_sy1))), ((hF424.1 28 rfl).trans ((hF398.1 28 rfl).trans (ex_na1))), ((hF424.1 29 rfl).trans ((hF398.1 29 rfl).trans (fx_29))), (congrFun ((hF424.2 3 rfl).trans ((hF398.2 3 rfl).trans (((congrFun eA375 3).trans (uA_ne (by decide))).trans (hFx.2 3 rfl)))) _), ((hF424.1 46 rfl).trans ((hF398.1 46 rfl).trans (fx_46))), ec433, by omega, by omega, by omega, by omega, by first | exact Or.inl (by omega)⟩
        · have _q : True := trivial
          exfalso
          omega
    · have _q : True := trivial
      exfalso
      omega
  · have _q : True := trivial
    refine jx_vr (pc' := 232) (as := [.int (i32 (0))]) (st := []) rfl rfl rfl rfl ⟨rfl, rfl, Nat.le_of_ble_eq_true rfl⟩ rfl rfl (c_need (dd := d) (hd := by omega) (hW := hW376) (g := 0) (ln := ln) (e_ln := show Gx 9 = ln from (fx_9)) (le := le) (e_le := show A375 4 (ln).toNat = le from (congrFun (((congrFun eA375 4).trans (uA_ne (by decide))).trans (hFx.2 4 rfl)) _).trans (e_le)) (at0 := at1) (e_at0 := show Gx 10 = at1 from (ex_at1)) (fk := fk1) (e_fk := show Gx 16 = fk1 from (ex_fk1)) (tk0 := Gx 11) (e_tk0 := show Gx 11 = Gx 11 from rfl)  (h_g := ⟨(by decide), (by decide)⟩)  (p_0 := by omega)) (fun o V' hq => ?_)
    obtain ⟨G447, A448, at2_449, tk2_450, fk2_451, rfl, rfl, hW452, hF453, e454, e455, e456, p457, p458, q459⟩ := hq
    have hF460 := Fr_tr hF377 hF453 (Fr_sub (by decide)) (Fr_sub (by decide))
    have hP461 := Pf_f hP379 hF453 (by decide)
    have hS462 := Fx_f hS380 hF453 (by decide)
    have hV463 := Fx_f hV381 hF453 (by decide)
    have hK464 := Fx_f hK382 hF453 (by decide)
    have ec465 : ecn A448 (G447 31) = ec := (ecn_f (hF453.2 15 rfl) (hF453.1 31 rfl)).trans ec383
    have bat2_449 : (0 : Int) ≤ at2_449 ∧ at2_449 ≤ 3002 := e454 ▸ hW452.1 10
    have ztk2_450 := tz_b tk2_450
    have btk2_450 : (0 : Int) ≤ tk2_450 ∧ tk2_450 ≤ 5 := e455 ▸ hW452.1 11
    have bfk2_451 : (0 : Int) ≤ fk2_451 ∧ fk2_451 ≤ 6 := e456 ▸ hW452.1 16
    refine .inl ⟨rfl, ?_⟩
    rcases q459 with ⟨a466, a467, a468, a469⟩ | ⟨a470, a471, a472, a473⟩
    · have _q : True := trivial
      refine jx_ld (pc' := 233) (l' := L) (st' := [.ref 66]) rfl (jl_aloadn gL_0) ?_
      refine jx_vr (pc' := 236) (as := []) (st := []) rfl rfl rfl rfl ⟨rfl, rfl, Nat.le_of_ble_eq_true rfl⟩ rfl rfl (c_endLine (dd := d) (hd := by omega) (hW := hW452)  (ln := ln) (e_ln := show G447 9 = ln from ((hF453.1 9 rfl).trans (fx_9))) (li := li) (e_li := show G447 3 = li from ((hF453.1 3 rfl).trans ((hFx.1 3 rfl).trans (e_li)))) (fk := fk2_451) (e_fk := show G447 16 = fk2_451 from (e456)) (tk0 := tk2_450) (e_tk0 := show G447 11 = tk2_450 from (e455))    (p_0 := by omega)) (fun o V' hq => ?_)
      obtain ⟨G474, A475, ln2_476, fk2_477, rfl, rfl, hW478, hF479, e480, e481, q482⟩ := hq
      have hF483 := Fr_tr hF460 hF479 (Fr_sub (by decide)) (Fr_sub (by decide))
      have hP484 := Pf_f hP461 hF479 (by decide)
      have hS485 := Fx_f hS462 hF479 (by decide)
      have hV486 := Fx_f hV463 hF479 (by decide)
      have hK487 := Fx_f hK464 hF479 (by decide)
      have ec488 : ecn A475 (G474 31) = ec := (ecn_f (hF479.2 15 rfl) (hF479.1 31 rfl)).trans ec465
      have bln2_476 : (0 : Int) ≤ ln2_476 ∧ ln2_476 ≤ 3000 := e480 ▸ hW478.1 9
      have bfk2_477 : (0 : Int) ≤ fk2_477 ∧ fk2_477 ≤ 6 := e481 ▸ hW478.1 16
      refine .inl ⟨rfl, ?_⟩
      rcases q482 with ⟨a489, a490, a491, a492, a493⟩ | ⟨a494, a495⟩
      · have _q : True := trivial
        exfalso
        omega
      · have _q : True := trivial
        refine jx_ld (pc' := 237) (l' := L) (st' := [.ref 66]) rfl (jl_aloadn gL_0) ?_
        refine jx_vr (pc' := 240) (as := []) (st := []) rfl rfl rfl rfl ⟨rfl, rfl, Nat.le_of_ble_eq_true rfl⟩ rfl rfl (c_bad (dd := d) (hd := by omega) (hW := hW478)  (fk := fk2_477) (e_fk := show G474 16 = fk2_477 from (e481))    ) (fun o V' hq => ?_)
        obtain ⟨r496, rfl, rfl, b497, q498⟩ := hq
        refine .inr ⟨_, rfl, ?_⟩
        rcases q498 with ⟨rfl, a499⟩ | ⟨rfl, a500⟩
        · have _q : True := trivial
          refine jx_if_eq (pc' := 243) (tg := 244) rfl rfl rfl (by decide) (by decide) (fun h501 => ?_) (fun h501 => ?_)
          · have _q := h501
            exact absurd h501 (by omega)
          · have _q := h501
            refine jx_rt (v := none) rfl rfl rfl rfl rfl rfl ?_
            exact ⟨_, _, ln2_476, at2_449, fk2_477, nd, sy1, na1, vi, A 3 (ln2_476).toNat, pc0, ec, rfl, rfl, hW478, hF483, hP484, hS485, hV486, hK487, (e480), ((hF479.1 10 rfl).trans (e454)), (e481), ((hF479.1 31 rfl).trans ((hF453.1 31 rfl).trans (fx_31))), ((hF479.1 19 rfl).trans ((hF453.1 19 rfl).trans (ex_sy1))), ((hF479.1 28 rfl).trans ((hF453.1 28 rfl).trans (ex_na1))), ((hF479.1 29 rfl).trans ((hF453.1 29 rfl).trans (fx_29))), (congrFun ((hF479.2 3 rfl).trans ((hF453.2 3 rfl).trans (((congrFun eA375 3).trans (uA_ne (by decide))).trans (hFx.2 3 rfl)))) _), ((hF479.1 46 rfl).trans ((hF453.1 46 rfl).trans (fx_46))), ec488, by omega, by omega, by omega, by omega, by first | exact Or.inl (by omega)⟩
        · have _q : True := trivial
          exfalso
          omega
    · have _q : True := trivial
      exfalso
      omega
set_option maxRecDepth 20000 in
set_option maxHeartbeats 4000000 in
theorem c_readProc_w_at_146 {X : jX} {d : Nat} {Vs : Nat → Prop} {sb pb : Int} (hvb : VB Vs sb) {c0 c1 : jC} {G : Nat → Int} {A : Nat → Nat → Int} {T : jH} {ln li at0 fk nd sy na vi le op0 tk0 pc0 ec : Int} (hd : 8 * 18 + 81 ≤ d + 1) (hW : Wk G A) (e_ln : G 9 = ln) (e_li : G 3 = li) (e_at0 : G 10 = at0) (e_fk : G 16 = fk) (e_nd : G 31 = nd) (e_sy : G 19 = sy) (e_na : G 28 = na) (e_vi : G 29 = vi) (e_le : A 4 (ln).toNat = le) (e_op0 : G 15 = op0) (e_tk0 : G 11 = tk0) (e_pc0 : G 46 = pc0) (e_ec : ecn A (G 31) = ec) (i_LT : LT G A) (i_SV : SV Vs sb G A) (i_PQ : PQ Vs sb pb G A) (p_0 : fk = 0) (p_1 : ln < li) (p_2 : at0 ≤ le) (p_3 : nd ≤ 2 * at0 - tz tk0 + 30) (p_4 : sy ≤ na + 2) (p_5 : vi ≤ sy) (p_6 : sb ≤ sy) (p_7 : pb = pc0) (p_8 : wQ A (pc0).toNat (nd) (sy)) (p_9 : VT (Vs) A (sy)) : ∀ (m : Nat) (L : jL) (Gx : Nat → Int) (Ax : Nat → Nat → Int) (p many more at1 tk1 fk1 sy1 na1 pp1 kp1 np1 : Int), (7 - many).toNat = m → jGet L 0 = some (.ref 66) → jGet L 1 = some (.int (i32 p)) → jGet L 2 = some (.int (i32 many)) → jGet L 3 = some (.int (i32 more)) → Wk Gx Ax → Fr [9, 10, 11, 12, 13, 14, 15, 16, 17, 18, 19, 28, 29, 31, 46] [6, 7, 8, 9, 10, 11, 12, 14, 15, 16, 17, 18, 19, 20, 21, 22, 23, 24, 28, 29, 30, 31] G A Gx Ax → Pf nd A Ax → Fx sr (sy) A Ax → Fx [14] (vi) A Ax → Fx [29, 30, 31] (pc0) A Ax → Gx 10 = at1 → Gx 11 = tk1 → Gx 16 = fk1 → Gx 19 = sy1 → Gx 28 = na1 → Ax 29 (pc0).toNat = pp1 → Ax 7 (sy).toNat = kp1 → Ax 12 (sy).toNat = np1 → Gx 9 = ln → Gx 29 = vi → Gx 46 = pc0 → Gx 31 = nd → ecn Ax (Gx 31) = ec → ((-2147483648 : Int) ≤ p ∧ p ≤ 2147483647) → ((-2147483648 : Int) ≤ many ∧ many ≤ 2147483647) → ((-2147483648 : Int) ≤ more ∧ more ≤ 2147483647) → (fk1 = 0) → (at0 ≤ at1) → (at1 ≤ le) → (sy1 = sy + 1 + many) → (sy1 ≤ na1 + 2) → (0 ≤ many) → (0 ≤ more ∧ more ≤ 1) → (many + more ≤ 6) → (wM Ax (sy + 1) (many)) → (kp1 = 14) → (np1 = pc0) → (pp1 = sy + 1) → (p = sy) → (pc0 ≤ 23) → wj X d jm308 (146, L, [], rV c0 c1 Gx Ax T) (fun o V' => ∃ (G' : Nat → Int) (A' : Nat → Nat → Int) (ln2 : Int) (at2 : Int) (fk2 : Int) (nd2 : Int) (sy2 : Int) (na2 : Int) (vi2 : Int) (lf2 : Int) (pc2 : Int) (ec2 : Int), V' = rV c0 c1 G' A' T ∧ o = .inl none ∧ Wk G' A' ∧ Fr [9, 10, 11, 12, 13, 14, 15, 16, 17, 18, 19, 28, 29, 31, 46] [6, 7, 8, 9, 10, 11, 12, 14, 15, 16, 17, 18, 19, 20, 21, 22, 23, 24, 28, 29, 30, 31] G A G' A' ∧ Pf nd A A' ∧ Fx sr (sy) A A' ∧ Fx [14] (vi) A A' ∧ Fx [29, 30, 31] (pc0) A A' ∧ G' 9 = ln2 ∧ G' 10 = at2 ∧ G' 16 = fk2 ∧ G' 31 = nd2 ∧ G' 19 = sy2 ∧ G' 28 = na2 ∧ G' 29 = vi2 ∧ A' 3 (ln2).toNat = lf2 ∧ G' 46 = pc2 ∧ ecn A' (G' 31) = ec2 ∧ (sy2 ≤ na2 + 2) ∧ (vi2 ≤ sy2) ∧ (ln ≤ ln2) ∧ (ln2 ≤ li) ∧ (((1 ≤ fk2)) ∨ ((fk2 = 0) ∧ (ln < ln2) ∧ (at0 ≤ at2) ∧ (pc2 = pc0 + 1) ∧ (nd2 - nd ≤ 2 * at2 - (2 * at0 - tz tk0)) ∧ (at2 < lf2 ∨ li ≤ ln2) ∧ (vi2 = vi + 1) ∧ (sy < sy2) ∧ (wQ A' (pc2).toNat (nd2) (sy2)) ∧ (SW (Vu Vs sy) (sy2) (vi2) A') ∧ (PQ (Vu Vs sy) (sy2) (pc2) (fun _ => 0) A') ∧ (VT (Vu Vs sy) A' (sy2)) ∧ (nd2 - nd + 5 * (ec2 - ec) ≤ 2 * at2 - (2 * at0 - tz tk0))))) := by
  have hF0 : Fr [9, 10, 11, 12, 13, 14, 15, 16, 17, 18, 19, 28, 29, 31, 46] [6, 7, 8, 9, 10, 11, 12, 14, 15, 16, 17, 18, 19, 20, 21, 22, 23, 24, 28, 29, 30, 31] G A G A := Fr_rf
  have hP0 : Pf nd A A := Pf_rf
  have hS0 : Fx sr (sy) A A := Fx_rf
  have hV0 : Fx [14] (vi) A A := Fx_rf
  have hK0 : Fx [29, 30, 31] (pc0) A A := Fx_rf
  have b_ln : (0 : Int) ≤ ln ∧ ln ≤ 3000 := e_ln ▸ hW.1 9
  have b_li : (0 : Int) ≤ li ∧ li ≤ 3000 := e_li ▸ hW.1 3
  have b_at0 : (0 : Int) ≤ at0 ∧ at0 ≤ 3002 := e_at0 ▸ hW.1 10
  have b_fk : (0 : Int) ≤ fk ∧ fk ≤ 6 := e_fk ▸ hW.1 16
  have b_nd : (0 : Int) ≤ nd ∧ nd ≤ 6999 := e_nd ▸ hW.1 31
  have b_sy : (0 : Int) ≤ sy ∧ sy ≤ 202 := e_sy ▸ hW.1 19
  have b_na : (0 : Int) ≤ na ∧ na ≤ 200 := e_na ▸ hW.1 28
  have b_vi : (0 : Int) ≤ vi ∧ vi ≤ 202 := e_vi ▸ hW.1 29
  have b_le : (0 : Int) ≤ le ∧ le ≤ 3000 := e_le ▸ hW.2 4 _
  have b_op0 : (-2147483648 : Int) ≤ op0 ∧ op0 ≤ 2147483647 := e_op0 ▸ hW.1 15
  have z_tk0 := tz_f tk0
  have b_tk0 : (0 : Int) ≤ tk0 ∧ tk0 ≤ 5 := e_tk0 ▸ hW.1 11
  have b_pc0 : (0 : Int) ≤ pc0 ∧ pc0 ≤ 24 := e_pc0 ▸ hW.1 46
  intro m
  induction m using Nat.strongRecOn with
  | ind m ih146 =>
    intro L Gx Ax p many more at1 tk1 fk1 sy1 na1 pp1 kp1 np1 hm gL_0 gL_1 gL_2 gL_3 hWx hFx hPx hSx hVx hKx ex_at1 ex_tk1 ex_fk1 ex_sy1 ex_na1 ex_pp1 ex_kp1 ex_np1 fx_9 fx_29 fx_46 fx_31 fx_900 rx_p rx_many rx_more iv_0 iv_1 iv_2 iv_3 iv_4 iv_5 iv_6 iv_7 iv_8 iv_9 iv_10 iv_11 iv_12 iv_13
    have b_at1 : (0 : Int) ≤ at1 ∧ at1 ≤ 3002 := ex_at1 ▸ hWx.1 10
    have z_tk1 := tz_f tk1
    have b_tk1 : (0 : Int) ≤ tk1 ∧ tk1 ≤ 5 := ex_tk1 ▸ hWx.1 11
    have b_fk1 : (0 : Int) ≤ fk1 ∧ fk1 ≤ 6 := ex_fk1 ▸ hWx.1 16
    have b_sy1 : (0 : Int) ≤ sy1 ∧ sy1 ≤ 202 := ex_sy1 ▸ hWx.1 19
    have b_na1 : (0 : Int) ≤ na1 ∧ na1 ≤ 200 := ex_na1 ▸ hWx.1 28
    refine jx_ld (pc' := 147) (l' := L) (st' := [.ref 66]) rfl (jl_aloadn gL_0) ?_
    refine jx_vr (pc' := 150) (as := []) (st := []) rfl rfl rfl rfl ⟨rfl, rfl, Nat.le_of_ble_eq_true rfl⟩ rfl rfl (c_bad (dd := d) (hd := by omega) (hW := hWx)  (fk := fk1) (e_fk := show Gx 16 = fk1 from (ex_fk1))    ) (fun o V' hq => ?_)
    obtain ⟨r502, rfl, rfl, b503, q504⟩ := hq
    refine .inr ⟨_, rfl, ?_⟩
    rcases q504 with ⟨rfl, a505⟩ | ⟨rfl, a506⟩
    · have _q : True := trivial
      exfalso
      omega
    · have _q : True := trivial
      refine jx_if_ne (pc' := 153) (tg := 212) rfl rfl rfl (by decide) (by decide) (fun h507 => ?_) (fun h507 => ?_)
      · have _q := h507
        exact absurd h507 (by omega)
      · have _q := h507
        refine jx_ld (pc' := 154) (l' := L) (st' := [.int (i32 (more))]) rfl (jl_iloadn gL_3) ?_
        refine jx_if_eq (pc' := 157) (tg := 212) rfl rfl rfl (Int.le_trans (by decide : (-2147483648 : Int) ≤ -2147483648) rx_more.1) (Int.le_trans rx_more.2 (by decide : (2147483647 : Int) ≤ 2147483647)) (fun h508 => ?_) (fun h508 => ?_)
        · have _q := h508
          refine jx_ld (pc' := 213) (l' := L) (st' := [.ref 66]) rfl (jl_aloadn gL_0) ?_
          refine jr_get (pc' := 216) (i := 48) (v := .ref 97) rfl rfl (by decide) rfl rfl ?_
          refine jx_ld (pc' := 217) (l' := L) (st' := [.ref 66, .ref 97]) rfl (jl_aloadn gL_0) ?_
          refine jr_get (pc' := 220) (i := 46) (v := .int (i32 (pc0))) rfl rfl (by decide) (rFv_eq (by decide) (show Gx 46 = pc0 from (fx_46))) rfl ?_
          refine jx_ld (pc' := 221) (l' := L) (st' := [.int (i32 (many)), .int (i32 (pc0)), .ref 97]) rfl (jl_iloadn gL_2) ?_
          refine jr_st (pc' := 222) (i := 30) (m := 25) (z := pc0) (y := many) rfl (by decide) rfl (by decide) (by omega) (by omega) rfl ?_
          have hW510 : Wk Gx (uA Ax 30 (pc0).toNat (many)) := Wk_a hWx (show (0 : Int) ≤ many by omega) (show many ≤ (6 : Int) by omega)
          have hF511 := Fr_a (z := many) (k := 30) (n := (pc0).toNat) hFx (by decide)
          obtain ⟨A509, eA509⟩ : ∃ q, q = uA Ax 30 (pc0).toNat (many) := ⟨_, rfl⟩
          rw [← eA509]
          rw [← eA509] at hW510 hF511
          have q512 : A509 30 (pc0).toNat = many := by rw [eA509]; exact uA_eq
          have hP513 : Pf nd A A509 := eA509 ▸ Pf_n hPx rfl
          have hS514 : Fx sr (sy) A A509 := eA509 ▸ Fx_n hSx rfl
          have hV515 : Fx [14] (vi) A A509 := eA509 ▸ Fx_n hVx rfl
          have hK516 : Fx [29, 30, 31] (pc0) A A509 := eA509 ▸ Fx_a hKx (z := pc0) (by omega) (by omega)
          have sf517 : wM A509 (sy + 1) (many) := wM_fx (Sg_ne (sb := sy + 1 + many) eA509 rfl) (by omega) (by omega) iv_8
          have ec518 : ecn A509 (Gx 31) = ec := (ecn_e ((congrFun eA509 15).trans (uA_ne (by decide)))).trans fx_900
          refine jx_ld (pc' := 223) (l' := L) (st' := [.ref 66]) rfl (jl_aloadn gL_0) ?_
          refine jx_ld (pc' := 224) (l' := L) (st' := [.ref 66, .ref 66]) rfl (jl_aloadn gL_0) ?_
          refine jx_ar (pc' := 226) (st' := [.int (i32 (41)), .ref 66, .ref 66]) rfl rfl rfl rfl ?_
          have b519 : (-2147483648 : Int) ≤ Gx 13 ∧ Gx 13 ≤ 2147483647 := hWx.1 13
          refine jx_vr (pc' := 229) (as := [.int (i32 (41))]) (st := [.ref 66]) rfl rfl rfl rfl ⟨rfl, rfl, Nat.le_of_ble_eq_true rfl⟩ rfl rfl (c_is (dd := d) (hd := by omega) (hW := hW510) (k := 41) (tk := tk1) (e_tk := show Gx 11 = tk1 from (ex_tk1)) (tn := Gx 13) (e_tn := show Gx 13 = Gx 13 from rfl)  (h_k := ⟨(by decide), (by decide)⟩)  ) (fun o V' hq => ?_)
          obtain ⟨r520, rfl, rfl, b521, q522⟩ := hq
          refine .inr ⟨_, rfl, ?_⟩
          rcases q522 with ⟨rfl, a523, a524, a525⟩ | rfl
          · have _q : True := trivial
            refine jx_vr (pc' := 232) (as := [.int (i32 (1))]) (st := []) rfl rfl rfl rfl ⟨rfl, rfl, Nat.le_of_ble_eq_true rfl⟩ rfl rfl (c_need (dd := d) (hd := by omega) (hW := hW510) (g := 1) (ln := ln) (e_ln := show Gx 9 = ln from (fx_9)) (le := le) (e_le := show A509 4 (ln).toNat = le from (congrFun (((congrFun eA509 4).trans (uA_ne (by decide))).trans (hFx.2 4 rfl)) _).trans (e_le)) (at0 := at1) (e_at0 := show Gx 10 = at1 from (ex_at1)) (fk := fk1) (e_fk := show Gx 16 = fk1 from (ex_fk1)) (tk0 := tk1) (e_tk0 := show Gx 11 = tk1 from (ex_tk1))  (h_g := ⟨(by decide), (by decide)⟩)  (p_0 := by omega)) (fun o V' hq => ?_)
            obtain ⟨G526, A527, at2_528, tk2_529, fk2_530, rfl, rfl, hW531, hF532, e533, e534, e535, p536, p537, q538⟩ := hq
            have hF539 := Fr_tr hF511 hF532 (Fr_sub (by decide)) (Fr_sub (by decide))
            have hP540 := Pf_f hP513 hF532 (by decide)
            have hS541 := Fx_f hS514 hF532 (by decide)
            have hV542 := Fx_f hV515 hF532 (by decide)
            have hK543 := Fx_f hK516 hF532 (by decide)
            have sf544 : wM A527 (sy + 1) (many) := wM_fx (Sg_fr (sb := sy + 1 + many) hF532 (by decide)) (by omega) (by omega) sf517
            have ec545 : ecn A527 (G526 31) = ec := (ecn_f (hF532.2 15 rfl) (hF532.1 31 rfl)).trans ec518
            have bat2_528 : (0 : Int) ≤ at2_528 ∧ at2_528 ≤ 3002 := e533 ▸ hW531.1 10
            have ztk2_529 := tz_b tk2_529
            have btk2_529 : (0 : Int) ≤ tk2_529 ∧ tk2_529 ≤ 5 := e534 ▸ hW531.1 11
            have bfk2_530 : (0 : Int) ≤ fk2_530 ∧ fk2_530 ≤ 6 := e535 ▸ hW531.1 16
            refine .inl ⟨rfl, ?_⟩
            rcases q538 with ⟨a546, a547, a548, a549⟩ | ⟨a550, a551, a552, a553⟩
            · have _q : True := trivial
              refine jx_ld (pc' := 233) (l' := L) (st' := [.ref 66]) rfl (jl_aloadn gL_0) ?_
              refine jx_vr (pc' := 236) (as := []) (st := []) rfl rfl rfl rfl ⟨rfl, rfl, Nat.le_of_ble_eq_true rfl⟩ rfl rfl (c_endLine (dd := d) (hd := by omega) (hW := hW531)  (ln := ln) (e_ln := show G526 9 = ln from ((hF532.1 9 rfl).trans (fx_9))) (li := li) (e_li := show G526 3 = li from ((hF532.1 3 rfl).trans ((hFx.1 3 rfl).trans (e_li)))) (fk := fk2_530) (e_fk := show G526 16 = fk2_530 from (e535)) (tk0 := tk2_529) (e_tk0 := show G526 11 = tk2_529 from (e534))    (p_0 := by omega)) (fun o V' hq => ?_)
              obtain ⟨G554, A555, ln2_556, fk2_557, rfl, rfl, hW558, hF559, e560, e561, q562⟩ := hq
              have hF563 := Fr_tr hF539 hF559 (Fr_sub (by decide)) (Fr_sub (by decide))
              have hP564 := Pf_f hP540 hF559 (by decide)
              have hS565 := Fx_f hS541 hF559 (by decide)
              have hV566 := Fx_f hV542 hF559 (by decide)
              have hK567 := Fx_f hK543 hF559 (by decide)
              have sf568 : wM A555 (sy + 1) (many) := wM_fx (Sg_fr (sb := sy + 1 + many) hF559 (by decide)) (by omega) (by omega) sf544
              have ec569 : ecn A555 (G554 31) = ec := (ecn_f (hF559.2 15 rfl) (hF559.1 31 rfl)).trans ec545
              have bln2_556 : (0 : Int) ≤ ln2_556 ∧ ln2_556 ≤ 3000 := e560 ▸ hW558.1 9
              have bfk2_557 : (0 : Int) ≤ fk2_557 ∧ fk2_557 ≤ 6 := e561 ▸ hW558.1 16
              refine .inl ⟨rfl, ?_⟩
              rcases q562 with ⟨a570, a571, a572, a573, a574⟩ | ⟨a575, a576⟩
              · have _q : True := trivial
                exfalso
                omega
              · have _q : True := trivial
                refine jx_ld (pc' := 237) (l' := L) (st' := [.ref 66]) rfl (jl_aloadn gL_0) ?_
                refine jx_vr (pc' := 240) (as := []) (st := []) rfl rfl rfl rfl ⟨rfl, rfl, Nat.le_of_ble_eq_true rfl⟩ rfl rfl (c_bad (dd := d) (hd := by omega) (hW := hW558)  (fk := fk2_557) (e_fk := show G554 16 = fk2_557 from (e561))    ) (fun o V' hq => ?_)
                obtain ⟨r577, rfl, rfl, b578, q579⟩ := hq
                refine .inr ⟨_, rfl, ?_⟩
                rcases q579 with ⟨rfl, a580⟩ | ⟨rfl, a581⟩
                · have _q : True := trivial
                  refine jx_if_eq (pc' := 243) (tg := 244) rfl rfl rfl (by decide) (by decide) (fun h582 => ?_) (fun h582 => ?_)
                  · have _q := h582
                    exact absurd h582 (by omega)
                  · have _q := h582
                    refine jx_rt (v := none) rfl rfl rfl rfl rfl rfl ?_
                    exact ⟨_, _, ln2_556, at2_528, fk2_557, nd, sy1, na1, vi, A 3 (ln2_556).toNat, pc0, ec, rfl, rfl, hW558, hF563, hP564, hS565, hV566, hK567, (e560), ((hF559.1 10 rfl).trans (e533)), (e561), ((hF559.1 31 rfl).trans ((hF532.1 31 rfl).trans (fx_31))), ((hF559.1 19 rfl).trans ((hF532.1 19 rfl).trans (ex_sy1))), ((hF559.1 28 rfl).trans ((hF532.1 28 rfl).trans (ex_na1))), ((hF559.1 29 rfl).trans ((hF532.1 29 rfl).trans (fx_29))), (congrFun ((hF559.2 3 rfl).trans ((hF532.2 3 rfl).trans (((congrFun eA509 3).trans (uA_ne (by decide))).trans (hFx.2 3 rfl)))) _), ((hF559.1 46 rfl).trans ((hF532.1 46 rfl).trans (fx_46))), ec569, by omega, by omega, by omega, by omega, by first | exact Or.inl (by omega)⟩
                · have _q : True := trivial
                  exfalso
                  omega
            · have _q : True := trivial
              refine jx_ld (pc' := 233) (l' := L) (st' := [.ref 66]) rfl (jl_aloadn gL_0) ?_
              refine jx_vr (pc' := 236) (as := []) (st := []) rfl rfl rfl rfl ⟨rfl, rfl, Nat.le_of_ble_eq_true rfl⟩ rfl rfl (c_endLine (dd := d) (hd := by omega) (hW := hW531)  (ln := ln) (e_ln := show G526 9 = ln from ((hF532.1 9 rfl).trans (fx_9))) (li := li) (e_li := show G526 3 = li from ((hF532.1 3 rfl).trans ((hFx.1 3 rfl).trans (e_li)))) (fk := fk2_530) (e_fk := show G526 16 = fk2_530 from (e535)) (tk0 := tk2_529) (e_tk0 := show G526 11 = tk2_529 from (e534))    (p_0 := by omega)) (fun o V' hq => ?_)
              obtain ⟨G583, A584, ln2_585, fk2_586, rfl, rfl, hW587, hF588, e589, e590, q591⟩ := hq
              have hF592 := Fr_tr hF539 hF588 (Fr_sub (by decide)) (Fr_sub (by decide))
              have hP593 := Pf_f hP540 hF588 (by decide)
              have hS594 := Fx_f hS541 hF588 (by decide)
              have hV595 := Fx_f hV542 hF588 (by decide)
              have hK596 := Fx_f hK543 hF588 (by decide)
              have sf597 : wM A584 (sy + 1) (many) := wM_fx (Sg_fr (sb := sy + 1 + many) hF588 (by decide)) (by omega) (by omega) sf544
              have ec598 : ecn A584 (G583 31) = ec := (ecn_f (hF588.2 15 rfl) (hF588.1 31 rfl)).trans ec545
              have bln2_585 : (0 : Int) ≤ ln2_585 ∧ ln2_585 ≤ 3000 := e589 ▸ hW587.1 9
              have bfk2_586 : (0 : Int) ≤ fk2_586 ∧ fk2_586 ≤ 6 := e590 ▸ hW587.1 16
              refine .inl ⟨rfl, ?_⟩
              rcases q591 with ⟨a599, a600, a601, a602, a603⟩ | ⟨a604, a605⟩
              · have _q : True := trivial
                have b606 : (0 : Int) ≤ A 3 (ln2_585).toNat ∧ A 3 (ln2_585).toNat ≤ 3000 := hW.2 3 _
                have lt607 : ln2_585 < li → le < A 3 (ln2_585).toNat := fun hh => LT_nx (LT_ext (((hF588.1 3 rfl).trans ((hF532.1 3 rfl).trans (hFx.1 3 rfl)))) (((hF588.2 3 rfl).trans ((hF532.2 3 rfl).trans (((congrFun eA509 3).trans (uA_ne (by decide))).trans (hFx.2 3 rfl))))) (((hF588.2 4 rfl).trans ((hF532.2 4 rfl).trans (((congrFun eA509 4).trans (uA_ne (by decide))).trans (hFx.2 4 rfl))))) i_LT) (show G583 3 = li from ((hF588.1 3 rfl).trans ((hF532.1 3 rfl).trans ((hFx.1 3 rfl).trans (e_li))))) (show A584 4 (ln).toNat = le from (congrFun ((hF588.2 4 rfl).trans ((hF532.2 4 rfl).trans (((congrFun eA509 4).trans (uA_ne (by decide))).trans (hFx.2 4 rfl)))) _).trans (e_le)) (show A584 3 (ln2_585).toNat = A 3 (ln2_585).toNat from (congrFun ((hF588.2 3 rfl).trans ((hF532.2 3 rfl).trans (((congrFun eA509 3).trans (uA_ne (by decide))).trans (hFx.2 3 rfl)))) _)) (show ln2_585 = ln + 1 by omega) (by omega) hh
                refine jx_ld (pc' := 237) (l' := L) (st' := [.ref 66]) rfl (jl_aloadn gL_0) ?_
                refine jx_vr (pc' := 240) (as := []) (st := []) rfl rfl rfl rfl ⟨rfl, rfl, Nat.le_of_ble_eq_true rfl⟩ rfl rfl (c_bad (dd := d) (hd := by omega) (hW := hW587)  (fk := fk2_586) (e_fk := show G583 16 = fk2_586 from (e590))    ) (fun o V' hq => ?_)
                obtain ⟨r608, rfl, rfl, b609, q610⟩ := hq
                refine .inr ⟨_, rfl, ?_⟩
                rcases q610 with ⟨rfl, a611⟩ | ⟨rfl, a612⟩
                · have _q : True := trivial
                  exfalso
                  omega
                · have _q : True := trivial
                  refine jx_if_eq (pc' := 243) (tg := 244) rfl rfl rfl (by decide) (by decide) (fun h613 => ?_) (fun h613 => ?_)
                  · have _q := h613
                    refine jx_ld (pc' := 245) (l' := L) (st' := [.ref 66]) rfl (jl_aloadn gL_0) ?_
                    refine jr_get (pc' := 248) (i := 29) (v := .int (i32 (vi))) rfl rfl (by decide) (rFv_eq (by decide) (show G583 29 = vi from ((hF588.1 29 rfl).trans ((hF532.1 29 rfl).trans (fx_29))))) rfl ?_
                    refine jx_ld (pc' := 250) (l' := jSto1 L 4 (.int (i32 (vi)))) (st' := []) rfl rfl ?_
                    obtain ⟨L614, eL614⟩ : ∃ q, q = jSto1 L 4 (.int (i32 (vi))) := ⟨_, rfl⟩
                    rw [← eL614]
                    have gL614_0 : jGet L614 0 = some (.ref 66) := eL614 ▸ jg_ne (by decide) gL_0 rfl
                    have gL614_1 : jGet L614 1 = some (.int (i32 (p))) := eL614 ▸ jg_ne (by decide) gL_1 rfl
                    have gL614_2 : jGet L614 2 = some (.int (i32 (many))) := eL614 ▸ jg_ne (by decide) gL_2 rfl
                    have gL614_3 : jGet L614 3 = some (.int (i32 (more))) := eL614 ▸ jg_ne (by decide) gL_3 rfl
                    have gL614_4 : jGet L614 4 = some (.int (i32 (vi))) := eL614 ▸ jg_eq
                    refine jx_ar (pc' := 251) (st' := [.int (i32 (0))]) rfl rfl rfl rfl ?_
                    refine jx_ld (pc' := 253) (l' := jSto1 L614 5 (.int (i32 (0)))) (st' := []) rfl rfl ?_
                    obtain ⟨L615, eL615⟩ : ∃ q, q = jSto1 L614 5 (.int (i32 (0))) := ⟨_, rfl⟩
                    rw [← eL615]
                    have gL615_0 : jGet L615 0 = some (.ref 66) := eL615 ▸ jg_ne (by decide) gL614_0 rfl
                    have gL615_1 : jGet L615 1 = some (.int (i32 (p))) := eL615 ▸ jg_ne (by decide) gL614_1 rfl
                    have gL615_2 : jGet L615 2 = some (.int (i32 (many))) := eL615 ▸ jg_ne (by decide) gL614_2 rfl
                    have gL615_3 : jGet L615 3 = some (.int (i32 (more))) := eL615 ▸ jg_ne (by decide) gL614_3 rfl
                    have gL615_4 : jGet L615 4 = some (.int (i32 (vi))) := eL615 ▸ jg_ne (by decide) gL614_4 rfl
                    have gL615_5 : jGet L615 5 = some (.int (i32 (0))) := eL615 ▸ jg_eq
                    exact c_readProc_w_at_253 (X := X) (d := d) (Vs := Vs) (sb := sb) (pb := pb) (hvb := hvb) (c0 := c0) (c1 := c1) (G := G) (A := A) (T := T) (ln := ln) (li := li) (at0 := at0) (fk := fk) (nd := nd) (sy := sy) (na := na) (vi := vi) (le := le) (op0 := op0) (tk0 := tk0) (pc0 := pc0) (ec := ec) (hd := hd) (hW := hW) (e_ln := e_ln) (e_li := e_li) (e_at0 := e_at0) (e_fk := e_fk) (e_nd := e_nd) (e_sy := e_sy) (e_na := e_na) (e_vi := e_vi) (e_le := e_le) (e_op0 := e_op0) (e_tk0 := e_tk0) (e_pc0 := e_pc0) (e_ec := e_ec) (i_LT := i_LT) (i_SV := i_SV) (i_PQ := i_PQ) (p_0 := p_0) (p_1 := p_1) (p_2 := p_2) (p_3 := p_3) (p_4 := p_4) (p_5 := p_5) (p_6 := p_6) (p_7 := p_7) (p_8 := p_8) (p_9 := p_9) _ L615 G583 A584 (p) (many) (0) (ln2_585) (at2_528) (fk2_586) (sy1) (na1) (vi) (pp1) (many) (kp1) (np1) (A 3 (ln2_585).toNat) rfl gL615_0 gL615_4 gL615_1 gL615_2 gL615_5 hW587 hF592 hP593 hS594 hV595 hK596 ((e589)) (((hF588.1 10 rfl).trans (e533))) ((e590)) (((hF588.1 19 rfl).trans ((hF532.1 19 rfl).trans (ex_sy1)))) (((hF588.1 28 rfl).trans ((hF532.1 28 rfl).trans (ex_na1)))) (((hF588.1 29 rfl).trans ((hF532.1 29 rfl).trans (fx_29)))) ((congrFun ((hF588.2 29 rfl).trans ((hF532.2 29 rfl).trans ((congrFun eA509 29).trans (uA_ne (by decide))))) _).trans (ex_pp1)) ((congrFun ((hF588.2 30 rfl).trans (hF532.2 30 rfl)) _).trans (q512)) ((congrFun ((hF588.2 7 rfl).trans ((hF532.2 7 rfl).trans ((congrFun eA509 7).trans (uA_ne (by decide))))) _).trans (ex_kp1)) ((congrFun ((hF588.2 12 rfl).trans ((hF532.2 12 rfl).trans ((congrFun eA509 12).trans (uA_ne (by decide))))) _).trans (ex_np1)) ((congrFun ((hF588.2 3 rfl).trans ((hF532.2 3 rfl).trans (((congrFun eA509 3).trans (uA_ne (by decide))).trans (hFx.2 3 rfl)))) _)) (((hF588.1 46 rfl).trans ((hF532.1 46 rfl).trans (fx_46)))) (((hF588.1 31 rfl).trans ((hF532.1 31 rfl).trans (fx_31)))) (ec598) (by omega) (by omega) (by omega) (by omega) (by omega) (by omega) (by omega) (by omega) (by omega) (by omega) (by omega) (by omega) (by omega) (sf597) (DS_nil) (by omega) (by omega) (by omega) (by omega) (by omega)
                  · have _q := h613
                    exact absurd h613 (by omega)
              · have _q : True := trivial
                refine jx_ld (pc' := 237) (l' := L) (st' := [.ref 66]) rfl (jl_aloadn gL_0) ?_
                refine jx_vr (pc' := 240) (as := []) (st := []) rfl rfl rfl rfl ⟨rfl, rfl, Nat.le_of_ble_eq_true rfl⟩ rfl rfl (c_bad (dd := d) (hd := by omega) (hW := hW587)  (fk := fk2_586) (e_fk := show G583 16 = fk2_586 from (e590))    ) (fun o V' hq => ?_)
                obtain ⟨r616, rfl, rfl, b617, q618⟩ := hq
                refine .inr ⟨_, rfl, ?_⟩
                rcases q618 with ⟨rfl, a619⟩ | ⟨rfl, a620⟩
                · have _q : True := trivial
                  refine jx_if_eq (pc' := 243) (tg := 244) rfl rfl rfl (by decide) (by decide) (fun h621 => ?_) (fun h621 => ?_)
                  · have _q := h621
                    exact absurd h621 (by omega)
                  · have _q := h621
                    refine jx_rt (v := none) rfl rfl rfl rfl rfl rfl ?_
                    exact ⟨_, _, ln2_585, at2_528, fk2_586, nd, sy1, na1, vi, A 3 (ln2_585).toNat, pc0, ec, rfl, rfl, hW587, hF592, hP593, hS594, hV595, hK596, (e589), ((hF588.1 10 rfl).trans (e533)), (e590), ((hF588.1 31 rfl).trans ((hF532.1 31 rfl).trans (fx_31))), ((hF588.1 19 rfl).trans ((hF532.1 19 rfl).trans (ex_sy1))), ((hF588.1 28 rfl).trans ((hF532.1 28 rfl).trans (ex_na1))), ((hF588.1 29 rfl).trans ((hF532.1 29 rfl).trans (fx_29))), (congrFun ((hF588.2 3 rfl).trans ((hF532.2 3 rfl).trans (((congrFun eA509 3).trans (uA_ne (by decide))).trans (hFx.2 3 rfl)))) _), ((hF588.1 46 rfl).trans ((hF532.1 46 rfl).trans (fx_46))), ec598, by omega, by omega, by omega, by omega, by first | exact Or.inl (by omega)⟩
                · have _q : True := trivial
                  exfalso
                  omega
          · have _q : True := trivial
            refine jx_vr (pc' := 232) (as := [.int (i32 (0))]) (st := []) rfl rfl rfl rfl ⟨rfl, rfl, Nat.le_of_ble_eq_true rfl⟩ rfl rfl (c_need (dd := d) (hd := by omega) (hW := hW510) (g := 0) (ln := ln) (e_ln := show Gx 9 = ln from (fx_9)) (le := le) (e_le := show A509 4 (ln).toNat = le from (congrFun (((congrFun eA509 4).trans (uA_ne (by decide))).trans (hFx.2 4 rfl)) _).trans (e_le)) (at0 := at1) (e_at0 := show Gx 10 = at1 from (ex_at1)) (fk := fk1) (e_fk := show Gx 16 = fk1 from (ex_fk1)) (tk0 := tk1) (e_tk0 := show Gx 11 = tk1 from (ex_tk1))  (h_g := ⟨(by decide), (by decide)⟩)  (p_0 := by omega)) (fun o V' hq => ?_)
            obtain ⟨G622, A623, at2_624, tk2_625, fk2_626, rfl, rfl, hW627, hF628, e629, e630, e631, p632, p633, q634⟩ := hq
            have hF635 := Fr_tr hF511 hF628 (Fr_sub (by decide)) (Fr_sub (by decide))
            have hP636 := Pf_f hP513 hF628 (by decide)
            have hS637 := Fx_f hS514 hF628 (by decide)
            have hV638 := Fx_f hV515 hF628 (by decide)
            have hK639 := Fx_f hK516 hF628 (by decide)
            have sf640 : wM A623 (sy + 1) (many) := wM_fx (Sg_fr (sb := sy + 1 + many) hF628 (by decide)) (by omega) (by omega) sf517
            have ec641 : ecn A623 (G622 31) = ec := (ecn_f (hF628.2 15 rfl) (hF628.1 31 rfl)).trans ec518
            have bat2_624 : (0 : Int) ≤ at2_624 ∧ at2_624 ≤ 3002 := e629 ▸ hW627.1 10
            have ztk2_625 := tz_b tk2_625
            have btk2_625 : (0 : Int) ≤ tk2_625 ∧ tk2_625 ≤ 5 := e630 ▸ hW627.1 11
            have bfk2_626 : (0 : Int) ≤ fk2_626 ∧ fk2_626 ≤ 6 := e631 ▸ hW627.1 16
            refine .inl ⟨rfl, ?_⟩
            rcases q634 with ⟨a642, a643, a644, a645⟩ | ⟨a646, a647, a648, a649⟩
            · have _q : True := trivial
              refine jx_ld (pc' := 233) (l' := L) (st' := [.ref 66]) rfl (jl_aloadn gL_0) ?_
              refine jx_vr (pc' := 236) (as := []) (st := []) rfl rfl rfl rfl ⟨rfl, rfl, Nat.le_of_ble_eq_true rfl⟩ rfl rfl (c_endLine (dd := d) (hd := by omega) (hW := hW627)  (ln := ln) (e_ln := show G622 9 = ln from ((hF628.1 9 rfl).trans (fx_9))) (li := li) (e_li := show G622 3 = li from ((hF628.1 3 rfl).trans ((hFx.1 3 rfl).trans (e_li)))) (fk := fk2_626) (e_fk := show G622 16 = fk2_626 from (e631)) (tk0 := tk2_625) (e_tk0 := show G622 11 = tk2_625 from (e630))    (p_0 := by omega)) (fun o V' hq => ?_)
              obtain ⟨G650, A651, ln2_652, fk2_653, rfl, rfl, hW654, hF655, e656, e657, q658⟩ := hq
              have hF659 := Fr_tr hF635 hF655 (Fr_sub (by decide)) (Fr_sub (by decide))
              have hP660 := Pf_f hP636 hF655 (by decide)
              have hS661 := Fx_f hS637 hF655 (by decide)
              have hV662 := Fx_f hV638 hF655 (by decide)
              have hK663 := Fx_f hK639 hF655 (by decide)
              have sf664 : wM A651 (sy + 1) (many) := wM_fx (Sg_fr (sb := sy + 1 + many) hF655 (by decide)) (by omega) (by omega) sf640
              have ec665 : ecn A651 (G650 31) = ec := (ecn_f (hF655.2 15 rfl) (hF655.1 31 rfl)).trans ec641
              have bln2_652 : (0 : Int) ≤ ln2_652 ∧ ln2_652 ≤ 3000 := e656 ▸ hW654.1 9
              have bfk2_653 : (0 : Int) ≤ fk2_653 ∧ fk2_653 ≤ 6 := e657 ▸ hW654.1 16
              refine .inl ⟨rfl, ?_⟩
              rcases q658 with ⟨a666, a667, a668, a669, a670⟩ | ⟨a671, a672⟩
              · have _q : True := trivial
                exfalso
                omega
              · have _q : True := trivial
                refine jx_ld (pc' := 237) (l' := L) (st' := [.ref 66]) rfl (jl_aloadn gL_0) ?_
                refine jx_vr (pc' := 240) (as := []) (st := []) rfl rfl rfl rfl ⟨rfl, rfl, Nat.le_of_ble_eq_true rfl⟩ rfl rfl (c_bad (dd := d) (hd := by omega) (hW := hW654)  (fk := fk2_653) (e_fk := show G650 16 = fk2_653 from (e657))    ) (fun o V' hq => ?_)
                obtain ⟨r673, rfl, rfl, b674, q675⟩ := hq
                refine .inr ⟨_, rfl, ?_⟩
                rcases q675 with ⟨rfl, a676⟩ | ⟨rfl, a677⟩
                · have _q : True := trivial
                  refine jx_if_eq (pc' := 243) (tg := 244) rfl rfl rfl (by decide) (by decide) (fun h678 => ?_) (fun h678 => ?_)
                  · have _q := h678
                    exact absurd h678 (by omega)
                  · have _q := h678
                    refine jx_rt (v := none) rfl rfl rfl rfl rfl rfl ?_
                    exact ⟨_, _, ln2_652, at2_624, fk2_653, nd, sy1, na1, vi, A 3 (ln2_652).toNat, pc0, ec, rfl, rfl, hW654, hF659, hP660, hS661, hV662, hK663, (e656), ((hF655.1 10 rfl).trans (e629)), (e657), ((hF655.1 31 rfl).trans ((hF628.1 31 rfl).trans (fx_31))), ((hF655.1 19 rfl).trans ((hF628.1 19 rfl).trans (ex_sy1))), ((hF655.1 28 rfl).trans ((hF628.1 28 rfl).trans (ex_na1))), ((hF655.1 29 rfl).trans ((hF628.1 29 rfl).trans (fx_29))), (congrFun ((hF655.2 3 rfl).trans ((hF628.2 3 rfl).trans (((congrFun eA509 3).trans (uA_ne (by decide))).trans (hFx.2 3 rfl)))) _), ((hF655.1 46 rfl).trans ((hF628.1 46 rfl).trans (fx_46))), ec665, by omega, by omega, by omega, by omega, by first | exact Or.inl (by omega)⟩
                · have _q : True := trivial
                  exfalso
                  omega
            · have _q : True := trivial
              exfalso
              omega
        · have _q := h508
          refine jx_ld (pc' := 158) (l' := L) (st' := [.ref 66]) rfl (jl_aloadn gL_0) ?_
          refine jx_ld (pc' := 159) (l' := L) (st' := [.ref 66, .ref 66]) rfl (jl_aloadn gL_0) ?_
          refine jr_get (pc' := 162) (i := 47) (v := .ref 96) rfl rfl (by decide) rfl rfl ?_
          refine jx_ld (pc' := 163) (l' := L) (st' := [.ref 66, .ref 96, .ref 66]) rfl (jl_aloadn gL_0) ?_
          refine jr_get (pc' := 166) (i := 46) (v := .int (i32 (pc0))) rfl rfl (by decide) (rFv_eq (by decide) (show Gx 46 = pc0 from (fx_46))) rfl ?_
          refine jr_ldv (pc' := 167) (i := 29) (m := 25) (z := pc0) (y := pp1) rfl (by decide) rfl (by decide) (Int.le_trans (by decide : (0 : Int) ≤ 0) b_pc0.1) (Int.lt_of_le_of_lt b_pc0.2 (by decide : (24 : Int) < ((25 : Nat) : Int))) rfl (show Ax 29 (pc0).toNat = pp1 from (ex_pp1)) ?_
          refine jx_vr (pc' := 170) (as := [.int (i32 (pp1))]) (st := []) rfl rfl rfl rfl ⟨rfl, rfl, Nat.le_of_ble_eq_true rfl⟩ rfl rfl (c_readParameter (dd := d) (hd := by omega) (hW := hWx) (fr := pp1) (ln := ln) (e_ln := show Gx 9 = ln from (fx_9)) (le := le) (e_le := show Ax 4 (ln).toNat = le from (congrFun (hFx.2 4 rfl) _).trans (e_le)) (at0 := at1) (e_at0 := show Gx 10 = at1 from (ex_at1)) (fk := fk1) (e_fk := show Gx 16 = fk1 from (ex_fk1)) (tk0 := tk1) (e_tk0 := show Gx 11 = tk1 from (ex_tk1)) (sy := sy1) (e_sy := show Gx 19 = sy1 from (ex_sy1)) (na := na1) (e_na := show Gx 28 = na1 from (ex_na1))  (h_fr := ⟨(by omega), (by omega)⟩)  (p_0 := by omega) (p_1 := by omega) (p_2 := by omega) (p_3 := by omega)) (fun o V' hq => ?_)
          obtain ⟨G679, A680, at2_681, fk2_682, sy2_683, na2_684, rfl, rfl, hW685, hF686, hQ687, e688, e689, e690, e691, p692, p693, p694, p695, q696⟩ := hq
          have hF697 := Fr_tr hFx hF686 (Fr_sub (by decide)) (Fr_sub (by decide))
          have hP698 := Pf_f hPx hF686 (by decide)
          have hS699 := Fx_tr hSx hQ687 (by omega)
          have hV700 := Fx_f hVx hF686 (by decide)
          have hK701 := Fx_f hKx hF686 (by decide)
          have k702 : A680 7 (sy).toNat = kp1 := (hQ687 7 _ rfl (by omega)).trans (show Ax 7 (sy).toNat = kp1 from (ex_kp1))
          have k703 : A680 12 (sy).toNat = np1 := (hQ687 12 _ rfl (by omega)).trans (show Ax 12 (sy).toNat = np1 from (ex_np1))
          have sf704 : wM A680 (sy + 1) (many) := wM_fx hQ687 (by omega) (by omega) iv_8
          have ec705 : ecn A680 (G679 31) = ec := (ecn_f (hF686.2 15 rfl) (hF686.1 31 rfl)).trans fx_900
          have bat2_681 : (0 : Int) ≤ at2_681 ∧ at2_681 ≤ 3002 := e688 ▸ hW685.1 10
          have bfk2_682 : (0 : Int) ≤ fk2_682 ∧ fk2_682 ≤ 6 := e689 ▸ hW685.1 16
          have bsy2_683 : (0 : Int) ≤ sy2_683 ∧ sy2_683 ≤ 202 := e690 ▸ hW685.1 19
          have bna2_684 : (0 : Int) ≤ na2_684 ∧ na2_684 ≤ 200 := e691 ▸ hW685.1 28
          refine .inl ⟨rfl, ?_⟩
          rcases q696 with a706 | ⟨a707, a708, a709⟩
          · have _q : True := trivial
            refine jx_inc (pc' := 173) (l' := jSto1 L 2 (.int (i32 ((many + (1)))))) (x := many) rfl gL_2 (by decide) rfl rfl ?_
            obtain ⟨L710, eL710⟩ : ∃ q, q = jSto1 L 2 (.int (i32 ((many + (1))))) := ⟨_, rfl⟩
            rw [← eL710]
            have gL710_0 : jGet L710 0 = some (.ref 66) := eL710 ▸ jg_ne (by decide) gL_0 rfl
            have gL710_1 : jGet L710 1 = some (.int (i32 (p))) := eL710 ▸ jg_ne (by decide) gL_1 rfl
            have gL710_3 : jGet L710 3 = some (.int (i32 (more))) := eL710 ▸ jg_ne (by decide) gL_3 rfl
            have gL710_2 : jGet L710 2 = some (.int (i32 ((many + (1))))) := eL710 ▸ jg_eq
            refine jx_ld (pc' := 174) (l' := L710) (st' := [.ref 66]) rfl (jl_aloadn gL710_0) ?_
            refine jx_vr (pc' := 177) (as := []) (st := []) rfl rfl rfl rfl ⟨rfl, rfl, Nat.le_of_ble_eq_true rfl⟩ rfl rfl (c_bad (dd := d) (hd := by omega) (hW := hW685)  (fk := fk2_682) (e_fk := show G679 16 = fk2_682 from (e689))    ) (fun o V' hq => ?_)
            obtain ⟨r711, rfl, rfl, b712, q713⟩ := hq
            refine .inr ⟨_, rfl, ?_⟩
            rcases q713 with ⟨rfl, a714⟩ | ⟨rfl, a715⟩
            · have _q : True := trivial
              refine jx_if_ne (pc' := 180) (tg := 199) rfl rfl rfl (by decide) (by decide) (fun h716 => ?_) (fun h716 => ?_)
              · have _q := h716
                refine jx_ar (pc' := 200) (st' := [.int (i32 (0))]) rfl rfl rfl rfl ?_
                refine jx_ld (pc' := 201) (l' := jSto1 L710 3 (.int (i32 (0)))) (st' := []) rfl rfl ?_
                obtain ⟨L717, eL717⟩ : ∃ q, q = jSto1 L710 3 (.int (i32 (0))) := ⟨_, rfl⟩
                rw [← eL717]
                have gL717_0 : jGet L717 0 = some (.ref 66) := eL717 ▸ jg_ne (by decide) gL710_0 rfl
                have gL717_1 : jGet L717 1 = some (.int (i32 (p))) := eL717 ▸ jg_ne (by decide) gL710_1 rfl
                have gL717_2 : jGet L717 2 = some (.int (i32 ((many + (1))))) := eL717 ▸ jg_ne (by decide) gL710_2 rfl
                have gL717_3 : jGet L717 3 = some (.int (i32 (0))) := eL717 ▸ jg_eq
                refine jx_ld (pc' := 202) (l' := L717) (st' := [.int (i32 (0))]) rfl (jl_iloadn gL717_3) ?_
                refine jx_if_eq (pc' := 205) (tg := 146) rfl rfl rfl (by decide) (by decide) (fun h718 => ?_) (fun h718 => ?_)
                · have _q := h718
                  refine jx_ld (pc' := 147) (l' := L717) (st' := [.ref 66]) rfl (jl_aloadn gL717_0) ?_
                  refine jx_vr (pc' := 150) (as := []) (st := []) rfl rfl rfl rfl ⟨rfl, rfl, Nat.le_of_ble_eq_true rfl⟩ rfl rfl (c_bad (dd := d) (hd := by omega) (hW := hW685)  (fk := fk2_682) (e_fk := show G679 16 = fk2_682 from (e689))    ) (fun o V' hq => ?_)
                  obtain ⟨r719, rfl, rfl, b720, q721⟩ := hq
                  refine .inr ⟨_, rfl, ?_⟩
                  rcases q721 with ⟨rfl, a722⟩ | ⟨rfl, a723⟩
                  · have _q : True := trivial
                    refine jx_if_ne (pc' := 153) (tg := 212) rfl rfl rfl (by decide) (by decide) (fun h724 => ?_) (fun h724 => ?_)
                    · have _q := h724
                      exact c_readProc_w_at_212p (X := X) (d := d) (Vs := Vs) (sb := sb) (pb := pb) (hvb := hvb) (c0 := c0) (c1 := c1) (G := G) (A := A) (T := T) (ln := ln) (li := li) (at0 := at0) (fk := fk) (nd := nd) (sy := sy) (na := na) (vi := vi) (le := le) (op0 := op0) (tk0 := tk0) (pc0 := pc0) (ec := ec) (hd := hd) (hW := hW) (e_ln := e_ln) (e_li := e_li) (e_at0 := e_at0) (e_fk := e_fk) (e_nd := e_nd) (e_sy := e_sy) (e_na := e_na) (e_vi := e_vi) (e_le := e_le) (e_op0 := e_op0) (e_tk0 := e_tk0) (e_pc0 := e_pc0) (e_ec := e_ec) (i_LT := i_LT) (i_SV := i_SV) (i_PQ := i_PQ) (p_0 := p_0) (p_1 := p_1) (p_2 := p_2) (p_3 := p_3) (p_4 := p_4) (p_5 := p_5) (p_6 := p_6) (p_7 := p_7) (p_8 := p_8) (p_9 := p_9) L717 G679 A680 (p) ((many + (1))) (at2_681) (fk2_682) (sy2_683) (na2_684) gL717_0 gL717_1 gL717_2 hW685 hF697 hP698 hS699 hV700 hK701 ((e688)) ((e689)) ((e690)) ((e691)) (((hF686.1 9 rfl).trans (fx_9))) (((hF686.1 29 rfl).trans (fx_29))) (((hF686.1 46 rfl).trans (fx_46))) (((hF686.1 31 rfl).trans (fx_31))) (ec705) (by omega) (by omega) (by omega) (by omega) (by omega) (by omega) (by omega) (by omega) (by omega)
                    · have _q := h724
                      exact absurd h724 (by omega)
                  · have _q : True := trivial
                    exfalso
                    omega
                · have _q := h718
                  exact absurd h718 (by omega)
              · have _q := h716
                exact absurd h716 (by omega)
            · have _q : True := trivial
              exfalso
              omega
          · have _q : True := trivial
            refine jx_inc (pc' := 173) (l' := jSto1 L 2 (.int (i32 ((many + (1)))))) (x := many) rfl gL_2 (by decide) rfl rfl ?_
            obtain ⟨L725, eL725⟩ : ∃ q, q = jSto1 L 2 (.int (i32 ((many + (1))))) := ⟨_, rfl⟩
            rw [← eL725]
            have gL725_0 : jGet L725 0 = some (.ref 66) := eL725 ▸ jg_ne (by decide) gL_0 rfl
            have gL725_1 : jGet L725 1 = some (.int (i32 (p))) := eL725 ▸ jg_ne (by decide) gL_1 rfl
            have gL725_3 : jGet L725 3 = some (.int (i32 (more))) := eL725 ▸ jg_ne (by decide) gL_3 rfl
            have gL725_2 : jGet L725 2 = some (.int (i32 ((many + (1))))) := eL725 ▸ jg_eq
            refine jx_ld (pc' := 174) (l' := L725) (st' := [.ref 66]) rfl (jl_aloadn gL725_0) ?_
            refine jx_vr (pc' := 177) (as := []) (st := []) rfl rfl rfl rfl ⟨rfl, rfl, Nat.le_of_ble_eq_true rfl⟩ rfl rfl (c_bad (dd := d) (hd := by omega) (hW := hW685)  (fk := fk2_682) (e_fk := show G679 16 = fk2_682 from (e689))    ) (fun o V' hq => ?_)
            obtain ⟨r726, rfl, rfl, b727, q728⟩ := hq
            refine .inr ⟨_, rfl, ?_⟩
            rcases q728 with ⟨rfl, a729⟩ | ⟨rfl, a730⟩
            · have _q : True := trivial
              exfalso
              omega
            · have _q : True := trivial
              refine jx_if_ne (pc' := 180) (tg := 199) rfl rfl rfl (by decide) (by decide) (fun h731 => ?_) (fun h731 => ?_)
              · have _q := h731
                exact absurd h731 (by omega)
              · have _q := h731
                refine jx_ld (pc' := 181) (l' := L725) (st' := [.ref 66]) rfl (jl_aloadn gL725_0) ?_
                refine jx_ar (pc' := 183) (st' := [.int (i32 (44)), .ref 66]) rfl rfl rfl rfl ?_
                have b732 : (0 : Int) ≤ G679 11 ∧ G679 11 ≤ 5 := hW685.1 11
                have b733 : (-2147483648 : Int) ≤ G679 13 ∧ G679 13 ≤ 2147483647 := hW685.1 13
                refine jx_vr (pc' := 186) (as := [.int (i32 (44))]) (st := []) rfl rfl rfl rfl ⟨rfl, rfl, Nat.le_of_ble_eq_true rfl⟩ rfl rfl (c_is (dd := d) (hd := by omega) (hW := hW685) (k := 44) (tk := G679 11) (e_tk := show G679 11 = G679 11 from rfl) (tn := G679 13) (e_tn := show G679 13 = G679 13 from rfl)  (h_k := ⟨(by decide), (by decide)⟩)  ) (fun o V' hq => ?_)
                obtain ⟨r734, rfl, rfl, b735, q736⟩ := hq
                refine .inr ⟨_, rfl, ?_⟩
                rcases q736 with ⟨rfl, a737, a738, a739⟩ | rfl
                · have _q : True := trivial
                  refine jx_if_eq (pc' := 189) (tg := 199) rfl rfl rfl (by decide) (by decide) (fun h740 => ?_) (fun h740 => ?_)
                  · have _q := h740
                    exact absurd h740 (by omega)
                  · have _q := h740
                    refine jx_ld (pc' := 190) (l' := L725) (st' := [.int (i32 ((many + (1))))]) rfl (jl_iloadn gL725_2) ?_
                    refine jx_ar (pc' := 192) (st' := [.int (i32 (6)), .int (i32 ((many + (1))))]) rfl rfl rfl rfl ?_
                    refine jx_icmp_ge (pc' := 195) (tg := 199) rfl rfl rfl (by omega) (by omega) (by decide) (by decide) (fun h741 => ?_) (fun h741 => ?_)
                    · have _q := h741
                      refine jx_ar (pc' := 200) (st' := [.int (i32 (0))]) rfl rfl rfl rfl ?_
                      refine jx_ld (pc' := 201) (l' := jSto1 L725 3 (.int (i32 (0)))) (st' := []) rfl rfl ?_
                      obtain ⟨L742, eL742⟩ : ∃ q, q = jSto1 L725 3 (.int (i32 (0))) := ⟨_, rfl⟩
                      rw [← eL742]
                      have gL742_0 : jGet L742 0 = some (.ref 66) := eL742 ▸ jg_ne (by decide) gL725_0 rfl
                      have gL742_1 : jGet L742 1 = some (.int (i32 (p))) := eL742 ▸ jg_ne (by decide) gL725_1 rfl
                      have gL742_2 : jGet L742 2 = some (.int (i32 ((many + (1))))) := eL742 ▸ jg_ne (by decide) gL725_2 rfl
                      have gL742_3 : jGet L742 3 = some (.int (i32 (0))) := eL742 ▸ jg_eq
                      refine jx_ld (pc' := 202) (l' := L742) (st' := [.int (i32 (0))]) rfl (jl_iloadn gL742_3) ?_
                      refine jx_if_eq (pc' := 205) (tg := 146) rfl rfl rfl (by decide) (by decide) (fun h743 => ?_) (fun h743 => ?_)
                      · have _q := h743
                        exact ih146 _ (by omega) L742 G679 A680 (p) ((many + (1))) (0) (at2_681) (G679 11) (fk2_682) (sy2_683) (na2_684) (pp1) (kp1) (np1) rfl gL742_0 gL742_1 gL742_2 gL742_3 hW685 hF697 hP698 hS699 hV700 hK701 ((e688)) (rfl) ((e689)) ((e690)) ((e691)) ((congrFun (hF686.2 29 rfl) _).trans (ex_pp1)) ((k702)) ((k703)) (((hF686.1 9 rfl).trans (fx_9))) (((hF686.1 29 rfl).trans (fx_29))) (((hF686.1 46 rfl).trans (fx_46))) (((hF686.1 31 rfl).trans (fx_31))) (ec705) (by omega) (by omega) (by omega) (by omega) (by omega) (by omega) (by omega) (by omega) (by omega) (by omega) (by omega) ((wM_add sf704 a709 (by omega) (by omega))) (by omega) (by omega) (by omega) (by omega) (by omega)
                      · have _q := h743
                        exact absurd h743 (by omega)
                    · have _q := h741
                      refine jx_ar (pc' := 196) (st' := [.int (i32 (1))]) rfl rfl rfl rfl ?_
                      refine jx_go (tg := 200) rfl rfl ?_
                      refine jx_ld (pc' := 201) (l' := jSto1 L725 3 (.int (i32 (1)))) (st' := []) rfl rfl ?_
                      obtain ⟨L744, eL744⟩ : ∃ q, q = jSto1 L725 3 (.int (i32 (1))) := ⟨_, rfl⟩
                      rw [← eL744]
                      have gL744_0 : jGet L744 0 = some (.ref 66) := eL744 ▸ jg_ne (by decide) gL725_0 rfl
                      have gL744_1 : jGet L744 1 = some (.int (i32 (p))) := eL744 ▸ jg_ne (by decide) gL725_1 rfl
                      have gL744_2 : jGet L744 2 = some (.int (i32 ((many + (1))))) := eL744 ▸ jg_ne (by decide) gL725_2 rfl
                      have gL744_3 : jGet L744 3 = some (.int (i32 (1))) := eL744 ▸ jg_eq
                      refine jx_ld (pc' := 202) (l' := L744) (st' := [.int (i32 (1))]) rfl (jl_iloadn gL744_3) ?_
                      refine jx_if_eq (pc' := 205) (tg := 146) rfl rfl rfl (by decide) (by decide) (fun h745 => ?_) (fun h745 => ?_)
                      · have _q := h745
                        exact absurd h745 (by omega)
                      · have _q := h745
                        refine jx_ld (pc' := 206) (l' := L744) (st' := [.ref 66]) rfl (jl_aloadn gL744_0) ?_
                        refine jx_vr (pc' := 209) (as := []) (st := []) rfl rfl rfl rfl ⟨rfl, rfl, Nat.le_of_ble_eq_true rfl⟩ rfl rfl (c_next (dd := d) (hd := by omega) (hW := hW685)  (ln := ln) (e_ln := show G679 9 = ln from ((hF686.1 9 rfl).trans (fx_9))) (le := le) (e_le := show A680 4 (ln).toNat = le from (congrFun ((hF686.2 4 rfl).trans (hFx.2 4 rfl)) _).trans (e_le)) (at0 := at2_681) (e_at0 := show G679 10 = at2_681 from (e688))    (p_0 := by omega)) (fun o V' hq => ?_)
                        obtain ⟨G746, A747, at2_748, tk2_749, rfl, rfl, hW750, hF751, e752, e753, p754, p755, p756, -⟩ := hq
                        have hF758 := Fr_tr hF697 hF751 (Fr_sub (by decide)) (Fr_sub (by decide))
                        have hP759 := Pf_f hP698 hF751 (by decide)
                        have hS760 := Fx_f hS699 hF751 (by decide)
                        have hV761 := Fx_f hV700 hF751 (by decide)
                        have hK762 := Fx_f hK701 hF751 (by decide)
                        have sf763 : wM A747 (sy + 1) (many) := wM_fx (Sg_fr (sb := sy + 1 + many) hF751 (by decide)) (by omega) (by omega) sf704
                        have sf764 : MP A747 (sy1) := MP_fx (Sg_fr (sb := sy1 + 1) hF751 (by decide)) (by omega) (by omega) a709
                        have ec765 : ecn A747 (G746 31) = ec := (ecn_f (hF751.2 15 rfl) (hF751.1 31 rfl)).trans ec705
                        have bat2_748 : (0 : Int) ≤ at2_748 ∧ at2_748 ≤ 3002 := e752 ▸ hW750.1 10
                        have ztk2_749 := tz_b tk2_749
                        have btk2_749 : (0 : Int) ≤ tk2_749 ∧ tk2_749 ≤ 5 := e753 ▸ hW750.1 11
                        refine .inl ⟨rfl, ?_⟩
                        refine jx_go (tg := 146) rfl rfl ?_
                        exact ih146 _ (by omega) L744 G746 A747 (p) ((many + (1))) (1) (at2_748) (tk2_749) (fk2_682) (sy2_683) (na2_684) (pp1) (kp1) (np1) rfl gL744_0 gL744_1 gL744_2 gL744_3 hW750 hF758 hP759 hS760 hV761 hK762 ((e752)) ((e753)) (((hF751.1 16 rfl).trans (e689))) (((hF751.1 19 rfl).trans (e690))) (((hF751.1 28 rfl).trans (e691))) ((congrFun ((hF751.2 29 rfl).trans (hF686.2 29 rfl)) _).trans (ex_pp1)) ((congrFun (hF751.2 7 rfl) _).trans (k702)) ((congrFun (hF751.2 12 rfl) _).trans (k703)) (((hF751.1 9 rfl).trans ((hF686.1 9 rfl).trans (fx_9)))) (((hF751.1 29 rfl).trans ((hF686.1 29 rfl).trans (fx_29)))) (((hF751.1 46 rfl).trans ((hF686.1 46 rfl).trans (fx_46)))) (((hF751.1 31 rfl).trans ((hF686.1 31 rfl).trans (fx_31)))) (ec765) (by omega) (by omega) (by omega) (by omega) (by omega) (by omega) (by omega) (by omega) (by omega) (by omega) (by omega) ((wM_add sf763 sf764 (by omega) (by omega))) (by omega) (by omega) (by omega) (by omega) (by omega)
                · have _q : True := trivial
                  refine jx_if_eq (pc' := 189) (tg := 199) rfl rfl rfl (by decide) (by decide) (fun h766 => ?_) (fun h766 => ?_)
                  · have _q := h766
                    refine jx_ar (pc' := 200) (st' := [.int (i32 (0))]) rfl rfl rfl rfl ?_
                    refine jx_ld (pc' := 201) (l' := jSto1 L725 3 (.int (i32 (0)))) (st' := []) rfl rfl ?_
                    obtain ⟨L767, eL767⟩ : ∃ q, q = jSto1 L725 3 (.int (i32 (0))) := ⟨_, rfl⟩
                    rw [← eL767]
                    have gL767_0 : jGet L767 0 = some (.ref 66) := eL767 ▸ jg_ne (by decide) gL725_0 rfl
                    have gL767_1 : jGet L767 1 = some (.int (i32 (p))) := eL767 ▸ jg_ne (by decide) gL725_1 rfl
                    have gL767_2 : jGet L767 2 = some (.int (i32 ((many + (1))))) := eL767 ▸ jg_ne (by decide) gL725_2 rfl
                    have gL767_3 : jGet L767 3 = some (.int (i32 (0))) := eL767 ▸ jg_eq
                    refine jx_ld (pc' := 202) (l' := L767) (st' := [.int (i32 (0))]) rfl (jl_iloadn gL767_3) ?_
                    refine jx_if_eq (pc' := 205) (tg := 146) rfl rfl rfl (by decide) (by decide) (fun h768 => ?_) (fun h768 => ?_)
                    · have _q := h768
                      exact ih146 _ (by omega) L767 G679 A680 (p) ((many + (1))) (0) (at2_681) (G679 11) (fk2_682) (sy2_683) (na2_684) (pp1) (kp1) (np1) rfl gL767_0 gL767_1 gL767_2 gL767_3 hW685 hF697 hP698 hS699 hV700 hK701 ((e688)) (rfl) ((e689)) ((e690)) ((e691)) ((congrFun (hF686.2 29 rfl) _).trans (ex_pp1)) ((k702)) ((k703)) (((hF686.1 9 rfl).trans (fx_9))) (((hF686.1 29 rfl).trans (fx_29))) (((hF686.1 46 rfl).trans (fx_46))) (((hF686.1 31 rfl).trans (fx_31))) (ec705) (by omega) (by omega) (by omega) (by omega) (by omega) (by omega) (by omega) (by omega) (by omega) (by omega) (by omega) ((wM_add sf704 a709 (by omega) (by omega))) (by omega) (by omega) (by omega) (by omega) (by omega)
                    · have _q := h768
                      exact absurd h768 (by omega)
                  · have _q := h766
                    exact absurd h766 (by omega)
set_option maxRecDepth 20000 in
set_option maxHeartbeats 4000000 in
theorem c_readProc_w {X : jX} {dd : Nat} {Vs : Nat → Prop} {sb pb : Int} (hvb : VB Vs sb) {c0 c1 : jC} {G : Nat → Int} {A : Nat → Nat → Int} {T : jH} {ln li at0 fk nd sy na vi le op0 tk0 pc0 ec : Int} (hd : 8 * 18 + 81 ≤ dd) (hW : Wk G A) (e_ln : G 9 = ln) (e_li : G 3 = li) (e_at0 : G 10 = at0) (e_fk : G 16 = fk) (e_nd : G 31 = nd) (e_sy : G 19 = sy) (e_na : G 28 = na) (e_vi : G 29 = vi) (e_le : A 4 (ln).toNat = le) (e_op0 : G 15 = op0) (e_tk0 : G 11 = tk0) (e_pc0 : G 46 = pc0) (e_ec : ecn A (G 31) = ec) (i_LT : LT G A) (i_SV : SV Vs sb G A) (i_PQ : PQ Vs sb pb G A) (p_0 : fk = 0) (p_1 : ln < li) (p_2 : at0 ≤ le) (p_3 : nd ≤ 2 * at0 - tz tk0 + 30) (p_4 : sy ≤ na + 2) (p_5 : vi ≤ sy) (p_6 : sb ≤ sy) (p_7 : pb = pc0) (p_8 : wQ A (pc0).toNat (nd) (sy)) (p_9 : VT (Vs) A (sy)) : wk X dd 308 [.ref 66] (rV c0 c1 G A T) (fun o V' => ∃ (G' : Nat → Int) (A' : Nat → Nat → Int) (ln2 : Int) (at2 : Int) (fk2 : Int) (nd2 : Int) (sy2 : Int) (na2 : Int) (vi2 : Int) (lf2 : Int) (pc2 : Int) (ec2 : Int), V' = rV c0 c1 G' A' T ∧ o = .inl none ∧ Wk G' A' ∧ Fr [9, 10, 11, 12, 13, 14, 15, 16, 17, 18, 19, 28, 29, 31, 46] [6, 7, 8, 9, 10, 11, 12, 14, 15, 16, 17, 18, 19, 20, 21, 22, 23, 24, 28, 29, 30, 31] G A G' A' ∧ Pf nd A A' ∧ Fx sr (sy) A A' ∧ Fx [14] (vi) A A' ∧ Fx [29, 30, 31] (pc0) A A' ∧ G' 9 = ln2 ∧ G' 10 = at2 ∧ G' 16 = fk2 ∧ G' 31 = nd2 ∧ G' 19 = sy2 ∧ G' 28 = na2 ∧ G' 29 = vi2 ∧ A' 3 (ln2).toNat = lf2 ∧ G' 46 = pc2 ∧ ecn A' (G' 31) = ec2 ∧ (sy2 ≤ na2 + 2) ∧ (vi2 ≤ sy2) ∧ (ln ≤ ln2) ∧ (ln2 ≤ li) ∧ (((1 ≤ fk2)) ∨ ((fk2 = 0) ∧ (ln < ln2) ∧ (at0 ≤ at2) ∧ (pc2 = pc0 + 1) ∧ (nd2 - nd ≤ 2 * at2 - (2 * at0 - tz tk0)) ∧ (at2 < lf2 ∨ li ≤ ln2) ∧ (vi2 = vi + 1) ∧ (sy < sy2) ∧ (wQ A' (pc2).toNat (nd2) (sy2)) ∧ (SW (Vu Vs sy) (sy2) (vi2) A') ∧ (PQ (Vu Vs sy) (sy2) (pc2) (fun _ => 0) A') ∧ (VT (Vu Vs sy) A' (sy2)) ∧ (nd2 - nd + 5 * (ec2 - ec) ≤ 2 * at2 - (2 * at0 - tz tk0))))) := by
  obtain ⟨d, rfl⟩ : ∃ d, dd = d + 1 := ⟨dd - 1, by omega⟩
  refine wk_of (e := jm308) rfl (Nat.le_of_ble_eq_true rfl) ?_
  show wj X d jm308 (0, [(0, .ref 66)], [], rV c0 c1 G A T) _
  have hF0 : Fr [9, 10, 11, 12, 13, 14, 15, 16, 17, 18, 19, 28, 29, 31, 46] [6, 7, 8, 9, 10, 11, 12, 14, 15, 16, 17, 18, 19, 20, 21, 22, 23, 24, 28, 29, 30, 31] G A G A := Fr_rf
  have hP0 : Pf nd A A := Pf_rf
  have hS0 : Fx sr (sy) A A := Fx_rf
  have hV0 : Fx [14] (vi) A A := Fx_rf
  have hK0 : Fx [29, 30, 31] (pc0) A A := Fx_rf
  have b_ln : (0 : Int) ≤ ln ∧ ln ≤ 3000 := e_ln ▸ hW.1 9
  have b_li : (0 : Int) ≤ li ∧ li ≤ 3000 := e_li ▸ hW.1 3
  have b_at0 : (0 : Int) ≤ at0 ∧ at0 ≤ 3002 := e_at0 ▸ hW.1 10
  have b_fk : (0 : Int) ≤ fk ∧ fk ≤ 6 := e_fk ▸ hW.1 16
  have b_nd : (0 : Int) ≤ nd ∧ nd ≤ 6999 := e_nd ▸ hW.1 31
  have b_sy : (0 : Int) ≤ sy ∧ sy ≤ 202 := e_sy ▸ hW.1 19
  have b_na : (0 : Int) ≤ na ∧ na ≤ 200 := e_na ▸ hW.1 28
  have b_vi : (0 : Int) ≤ vi ∧ vi ≤ 202 := e_vi ▸ hW.1 29
  have b_le : (0 : Int) ≤ le ∧ le ≤ 3000 := e_le ▸ hW.2 4 _
  have b_op0 : (-2147483648 : Int) ≤ op0 ∧ op0 ≤ 2147483647 := e_op0 ▸ hW.1 15
  have z_tk0 := tz_f tk0
  have b_tk0 : (0 : Int) ≤ tk0 ∧ tk0 ≤ 5 := e_tk0 ▸ hW.1 11
  have b_pc0 : (0 : Int) ≤ pc0 ∧ pc0 ≤ 24 := e_pc0 ▸ hW.1 46
  refine jx_ld (pc' := 1) (l' := [(0, .ref 66)]) (st' := [.ref 66]) rfl (jl_aloadn rfl) ?_
  refine jx_vr (pc' := 4) (as := []) (st := []) rfl rfl rfl rfl ⟨rfl, rfl, Nat.le_of_ble_eq_true rfl⟩ rfl rfl (c_next (dd := d) (hd := by omega) (hW := hW)  (ln := ln) (e_ln := show G 9 = ln from (e_ln)) (le := le) (e_le := show A 4 (ln).toNat = le from (e_le)) (at0 := at0) (e_at0 := show G 10 = at0 from (e_at0))    (p_0 := by omega)) (fun o V' hq => ?_)
  obtain ⟨G769, A770, at2_771, tk2_772, rfl, rfl, hW773, hF774, e775, e776, p777, p778, p779, -⟩ := hq
  have hF781 := Fr_tr hF0 hF774 (Fr_sub (by decide)) (Fr_sub (by decide))
  have hP782 := Pf_f hP0 hF774 (by decide)
  have hS783 := Fx_f hS0 hF774 (by decide)
  have hV784 := Fx_f hV0 hF774 (by decide)
  have hK785 := Fx_f hK0 hF774 (by decide)
  have sf786 : wQ A770 (pc0).toNat (nd) (sy) := (show A770 = A from funext (fun k => hF774.2 k rfl)) ▸ p_8
  have sf787 : VT (Vs) A770 (sy) := (show A770 = A from funext (fun k => hF774.2 k rfl)) ▸ p_9
  have ec788 : ecn A770 (G769 31) = ec := (ecn_f (hF774.2 15 rfl) (hF774.1 31 rfl)).trans e_ec
  have bat2_771 : (0 : Int) ≤ at2_771 ∧ at2_771 ≤ 3002 := e775 ▸ hW773.1 10
  have ztk2_772 := tz_b tk2_772
  have btk2_772 : (0 : Int) ≤ tk2_772 ∧ tk2_772 ≤ 5 := e776 ▸ hW773.1 11
  refine .inl ⟨rfl, ?_⟩
  refine jx_ld (pc' := 5) (l' := [(0, .ref 66)]) (st' := [.ref 66]) rfl (jl_aloadn rfl) ?_
  have z789 := tz_f (tk2_772)
  refine jr_get (pc' := 8) (i := 11) (v := .int (i32 (tk2_772))) rfl rfl (by decide) (rFv_eq (by decide) (show G769 11 = tk2_772 from (e776))) rfl ?_
  refine jx_ar (pc' := 9) (st' := [.int (i32 (1)), .int (i32 (tk2_772))]) rfl rfl rfl rfl ?_
  refine jx_icmp_eq (pc' := 12) (tg := 22) rfl rfl rfl (Int.le_trans (by decide : (-2147483648 : Int) ≤ 0) btk2_772.1) (Int.le_trans btk2_772.2 (by decide : (5 : Int) ≤ 2147483647)) (by decide) (by decide) (fun h790 => ?_) (fun h790 => ?_)
  · have _q := h790
    refine jx_ld (pc' := 23) (l' := [(0, .ref 66)]) (st' := [.ref 66]) rfl (jl_aloadn rfl) ?_
    refine jx_ld (pc' := 24) (l' := [(0, .ref 66)]) (st' := [.ref 66, .ref 66]) rfl (jl_aloadn rfl) ?_
    refine jr_get (pc' := 27) (i := 14) (v := .long (i64 (G769 14))) rfl rfl (by decide) rfl rfl ?_
    obtain ⟨y791, ey791⟩ : ∃ q : Int64, q = i64 (G769 14) := ⟨_, rfl⟩
    rw [← ey791]
    refine jx_vr (pc' := 30) (as := [.long (y791)]) (st := []) rfl rfl rfl rfl ⟨rfl, rfl, Nat.le_of_ble_eq_true rfl⟩ rfl rfl (c_isTaken (dd := d) (hd := by omega) (hW := hW773) (nm := y791) (sy := sy) (e_sy := show G769 19 = sy from ((hF774.1 19 rfl).trans (e_sy)))    ) (fun o V' hq => ?_)
    obtain ⟨r792, rfl, rfl, b793, -⟩ := hq
    refine .inr ⟨_, rfl, ?_⟩
    refine jx_if_eq (pc' := 33) (tg := 42) rfl rfl rfl (Int.le_trans (by decide : (-2147483648 : Int) ≤ 0) b793.1) (Int.le_trans b793.2 (by decide : (1 : Int) ≤ 2147483647)) (fun h795 => ?_) (fun h795 => ?_)
    · have _q := h795
      refine jx_ld (pc' := 43) (l' := [(0, .ref 66)]) (st' := [.ref 66]) rfl (jl_aloadn rfl) ?_
      refine jx_vr (pc' := 46) (as := []) (st := []) rfl rfl rfl rfl ⟨rfl, rfl, Nat.le_of_ble_eq_true rfl⟩ rfl rfl (c_bad (dd := d) (hd := by omega) (hW := hW773)  (fk := fk) (e_fk := show G769 16 = fk from ((hF774.1 16 rfl).trans (e_fk)))    ) (fun o V' hq => ?_)
      obtain ⟨r796, rfl, rfl, b797, q798⟩ := hq
      refine .inr ⟨_, rfl, ?_⟩
      rcases q798 with ⟨rfl, a799⟩ | ⟨rfl, a800⟩
      · have _q : True := trivial
        exfalso
        omega
      · have _q : True := trivial
        refine jx_if_ne (pc' := 49) (tg := 68) rfl rfl rfl (by decide) (by decide) (fun h801 => ?_) (fun h801 => ?_)
        · have _q := h801
          exact absurd h801 (by omega)
        · have _q := h801
          refine jx_ld (pc' := 50) (l' := [(0, .ref 66)]) (st' := [.ref 66]) rfl (jl_aloadn rfl) ?_
          refine jr_get (pc' := 53) (i := 46) (v := .int (i32 (pc0))) rfl rfl (by decide) (rFv_eq (by decide) (show G769 46 = pc0 from ((hF774.1 46 rfl).trans (e_pc0)))) rfl ?_
          refine jx_ar (pc' := 55) (st' := [.int (i32 (24)), .int (i32 (pc0))]) rfl rfl rfl rfl ?_
          refine jx_icmp_ne (pc' := 58) (tg := 68) rfl rfl rfl (Int.le_trans (by decide : (-2147483648 : Int) ≤ 0) b_pc0.1) (Int.le_trans b_pc0.2 (by decide : (24 : Int) ≤ 2147483647)) (by decide) (by decide) (fun h802 => ?_) (fun h802 => ?_)
          · have _q := h802
            refine jx_ld (pc' := 69) (l' := [(0, .ref 66)]) (st' := [.ref 66]) rfl (jl_aloadn rfl) ?_
            refine jx_ar (pc' := 71) (st' := [.int (i32 (14)), .ref 66]) rfl rfl rfl rfl ?_
            refine jx_ar (pc' := 72) (st' := [.int (i32 (0)), .int (i32 (14)), .ref 66]) rfl rfl rfl rfl ?_
            refine jx_vr (pc' := 75) (as := [.int (i32 (14)), .int (i32 (0))]) (st := []) rfl rfl rfl rfl ⟨rfl, rfl, Nat.le_of_ble_eq_true rfl⟩ rfl rfl (c_newName (dd := d) (hd := by omega) (hW := hW773) (kind := 14) (many := 0) (sy := sy) (e_sy := show G769 19 = sy from ((hF774.1 19 rfl).trans (e_sy))) (na := na) (e_na := show G769 28 = na from ((hF774.1 28 rfl).trans (e_na))) (fk := fk) (e_fk := show G769 16 = fk from ((hF774.1 16 rfl).trans (e_fk)))  (h_kind := ⟨(by decide), (by decide)⟩) (h_many := ⟨(by decide), (by decide)⟩)  (p_0 := by omega) (p_1 := by omega)) (fun o V' hq => ?_)
            obtain ⟨G803, A804, r805, sy2_806, na2_807, fk2_808, yk2_809, rfl, rfl, hW810, hF811, hQ812, b813, e814, e815, e816, e817, q818⟩ := hq
            have hF819 := Fr_tr hF781 hF811 (Fr_sub (by decide)) (Fr_sub (by decide))
            have hP820 := Pf_f hP782 hF811 (by decide)
            have hS821 := Fx_tr hS783 hQ812 (by omega)
            have hV822 := Fx_f hV784 hF811 (by decide)
            have hK823 := Fx_f hK785 hF811 (by decide)
            have sf824 : wQ A804 (pc0).toNat (nd) (sy) := wQ_fx (Pf_f Pf_rf hF811 (by decide)) (Fx_su hQ812 (by omega)) (Fx_su (Fx_f (w := pc0) Fx_rf hF811 (by decide)) (by omega)) sf786
            have sf825 : VT (Vs) A804 (sy) := VT_fx hQ812 (by omega) sf787
            have ec826 : ecn A804 (G803 31) = ec := (ecn_f (hF811.2 15 rfl) (hF811.1 31 rfl)).trans ec788
            have bsy2_806 : (0 : Int) ≤ sy2_806 ∧ sy2_806 ≤ 202 := e814 ▸ hW810.1 19
            have bna2_807 : (0 : Int) ≤ na2_807 ∧ na2_807 ≤ 200 := e815 ▸ hW810.1 28
            have bfk2_808 : (0 : Int) ≤ fk2_808 ∧ fk2_808 ≤ 6 := e816 ▸ hW810.1 16
            have byk2_809 : (0 : Int) ≤ yk2_809 ∧ yk2_809 ≤ 14 := e817 ▸ hW810.2 7 _
            refine .inr ⟨_, rfl, ?_⟩
            rcases q818 with ⟨a833, a827, a828, a829, a830, a831, a832⟩ | ⟨rfl, a834, a835, a836⟩
            · have _q : True := trivial
              rw [a833]
              refine jx_ld (pc' := 76) (l' := jSto1 [(0, .ref 66)] 1 (.int (i32 (sy)))) (st' := []) rfl rfl ?_
              obtain ⟨L837, eL837⟩ : ∃ q, q = jSto1 [(0, .ref 66)] 1 (.int (i32 (sy))) := ⟨_, rfl⟩
              rw [← eL837]
              have gL837_0 : jGet L837 0 = some (.ref 66) := eL837 ▸ jg_ne (by decide) (rfl : jGet [(0, .ref 66)] 0 = some (.ref 66)) rfl
              have gL837_1 : jGet L837 1 = some (.int (i32 (sy))) := eL837 ▸ jg_eq
              refine jx_ld (pc' := 77) (l' := L837) (st' := [.ref 66]) rfl (jl_aloadn gL837_0) ?_
              refine jx_vr (pc' := 80) (as := []) (st := []) rfl rfl rfl rfl ⟨rfl, rfl, Nat.le_of_ble_eq_true rfl⟩ rfl rfl (c_bad (dd := d) (hd := by omega) (hW := hW810)  (fk := fk2_808) (e_fk := show G803 16 = fk2_808 from (e816))    ) (fun o V' hq => ?_)
              obtain ⟨r838, rfl, rfl, b839, q840⟩ := hq
              refine .inr ⟨_, rfl, ?_⟩
              rcases q840 with ⟨rfl, a841⟩ | ⟨rfl, a842⟩
              · have _q : True := trivial
                exfalso
                omega
              · have _q : True := trivial
                refine jx_if_eq (pc' := 83) (tg := 84) rfl rfl rfl (by decide) (by decide) (fun h843 => ?_) (fun h843 => ?_)
                · have _q := h843
                  refine jx_ld (pc' := 85) (l' := L837) (st' := [.ref 66]) rfl (jl_aloadn gL837_0) ?_
                  refine jr_get (pc' := 88) (i := 26) (v := .ref 79) rfl rfl (by decide) rfl rfl ?_
                  refine jx_ld (pc' := 89) (l' := L837) (st' := [.int (i32 (sy)), .ref 79]) rfl (jl_iloadn gL837_1) ?_
                  refine jx_ld (pc' := 90) (l' := L837) (st' := [.ref 66, .int (i32 (sy)), .ref 79]) rfl (jl_aloadn gL837_0) ?_
                  refine jr_get (pc' := 93) (i := 46) (v := .int (i32 (pc0))) rfl rfl (by decide) (rFv_eq (by decide) (show G803 46 = pc0 from ((hF811.1 46 rfl).trans ((hF774.1 46 rfl).trans (e_pc0))))) rfl ?_
                  refine jr_st (pc' := 94) (i := 12) (m := 260) (z := sy) (y := pc0) rfl (by decide) rfl (by decide) (by omega) (by omega) rfl ?_
                  have hW845 : Wk G803 (uA A804 12 (sy).toNat (pc0)) := Wk_a hW810 (show (0 : Int) ≤ pc0 by omega) (show pc0 ≤ (24 : Int) by omega)
                  have hF846 := Fr_a (z := pc0) (k := 12) (n := (sy).toNat) hF819 (by decide)
                  obtain ⟨A844, eA844⟩ : ∃ q, q = uA A804 12 (sy).toNat (pc0) := ⟨_, rfl⟩
                  rw [← eA844]
                  rw [← eA844] at hW845 hF846
                  have q847 : A844 12 (sy).toNat = pc0 := by rw [eA844]; exact uA_eq
                  have hP848 : Pf nd A A844 := eA844 ▸ Pf_n hP820 rfl
                  have hS849 : Fx sr (sy) A A844 := eA844 ▸ Fx_a hS821 (z := sy) (by omega) (by omega)
                  have hV850 : Fx [14] (vi) A A844 := eA844 ▸ Fx_n hV822 rfl
                  have hK851 : Fx [29, 30, 31] (pc0) A A844 := eA844 ▸ Fx_n hK823 rfl
                  have ec852 : ecn A844 (G803 31) = ec := (ecn_e ((congrFun eA844 15).trans (uA_ne (by decide)))).trans ec826
                  refine jx_ld (pc' := 95) (l' := L837) (st' := [.ref 66]) rfl (jl_aloadn gL837_0) ?_
                  refine jx_ar (pc' := 96) (st' := [.int (i32 (1)), .ref 66]) rfl rfl rfl rfl ?_
                  refine jx_vr (pc' := 99) (as := [.int (i32 (1))]) (st := []) rfl rfl rfl rfl ⟨rfl, rfl, Nat.le_of_ble_eq_true rfl⟩ rfl rfl (c_need (dd := d) (hd := by omega) (hW := hW845) (g := 1) (ln := ln) (e_ln := show G803 9 = ln from ((hF811.1 9 rfl).trans ((hF774.1 9 rfl).trans (e_ln)))) (le := le) (e_le := show A844 4 (ln).toNat = le from (congrFun (((congrFun eA844 4).trans (uA_ne (by decide))).trans ((hF811.2 4 rfl).trans (hF774.2 4 rfl))) _).trans (e_le)) (at0 := at2_771) (e_at0 := show G803 10 = at2_771 from ((hF811.1 10 rfl).trans (e775))) (fk := fk2_808) (e_fk := show G803 16 = fk2_808 from (e816)) (tk0 := tk2_772) (e_tk0 := show G803 11 = tk2_772 from ((hF811.1 11 rfl).trans (e776)))  (h_g := ⟨(by decide), (by decide)⟩)  (p_0 := by omega)) (fun o V' hq => ?_)
                  obtain ⟨G853, A854, at2_855, tk2_856, fk2_857, rfl, rfl, hW858, hF859, e860, e861, e862, p863, p864, q865⟩ := hq
                  have hF866 := Fr_tr hF846 hF859 (Fr_sub (by decide)) (Fr_sub (by decide))
                  have hP867 := Pf_f hP848 hF859 (by decide)
                  have hS868 := Fx_f hS849 hF859 (by decide)
                  have hV869 := Fx_f hV850 hF859 (by decide)
                  have hK870 := Fx_f hK851 hF859 (by decide)
                  have ec871 : ecn A854 (G853 31) = ec := (ecn_f (hF859.2 15 rfl) (hF859.1 31 rfl)).trans ec852
                  have bat2_855 : (0 : Int) ≤ at2_855 ∧ at2_855 ≤ 3002 := e860 ▸ hW858.1 10
                  have ztk2_856 := tz_b tk2_856
                  have btk2_856 : (0 : Int) ≤ tk2_856 ∧ tk2_856 ≤ 5 := e861 ▸ hW858.1 11
                  have bfk2_857 : (0 : Int) ≤ fk2_857 ∧ fk2_857 ≤ 6 := e862 ▸ hW858.1 16
                  refine .inl ⟨rfl, ?_⟩
                  rcases q865 with ⟨a872, a873, a874, a875⟩ | ⟨a876, a877, a878, a879⟩
                  · have _q : True := trivial
                    refine jx_ld (pc' := 100) (l' := L837) (st' := [.ref 66]) rfl (jl_aloadn gL837_0) ?_
                    refine jx_ld (pc' := 101) (l' := L837) (st' := [.ref 66, .ref 66]) rfl (jl_aloadn gL837_0) ?_
                    refine jx_ar (pc' := 103) (st' := [.int (i32 (40)), .ref 66, .ref 66]) rfl rfl rfl rfl ?_
                    have b880 : (-2147483648 : Int) ≤ G853 13 ∧ G853 13 ≤ 2147483647 := hW858.1 13
                    refine jx_vr (pc' := 106) (as := [.int (i32 (40))]) (st := [.ref 66]) rfl rfl rfl rfl ⟨rfl, rfl, Nat.le_of_ble_eq_true rfl⟩ rfl rfl (c_is (dd := d) (hd := by omega) (hW := hW858) (k := 40) (tk := tk2_856) (e_tk := show G853 11 = tk2_856 from (e861)) (tn := G853 13) (e_tn := show G853 13 = G853 13 from rfl)  (h_k := ⟨(by decide), (by decide)⟩)  ) (fun o V' hq => ?_)
                    obtain ⟨r881, rfl, rfl, b882, q883⟩ := hq
                    refine .inr ⟨_, rfl, ?_⟩
                    rcases q883 with ⟨rfl, a884, a885, a886⟩ | rfl
                    · have _q : True := trivial
                      refine jx_vr (pc' := 109) (as := [.int (i32 (1))]) (st := []) rfl rfl rfl rfl ⟨rfl, rfl, Nat.le_of_ble_eq_true rfl⟩ rfl rfl (c_need (dd := d) (hd := by omega) (hW := hW858) (g := 1) (ln := ln) (e_ln := show G853 9 = ln from ((hF859.1 9 rfl).trans ((hF811.1 9 rfl).trans ((hF774.1 9 rfl).trans (e_ln))))) (le := le) (e_le := show A854 4 (ln).toNat = le from (congrFun ((hF859.2 4 rfl).trans (((congrFun eA844 4).trans (uA_ne (by decide))).trans ((hF811.2 4 rfl).trans (hF774.2 4 rfl)))) _).trans (e_le)) (at0 := at2_855) (e_at0 := show G853 10 = at2_855 from (e860)) (fk := fk2_857) (e_fk := show G853 16 = fk2_857 from (e862)) (tk0 := tk2_856) (e_tk0 := show G853 11 = tk2_856 from (e861))  (h_g := ⟨(by decide), (by decide)⟩)  (p_0 := by omega)) (fun o V' hq => ?_)
                      obtain ⟨G887, A888, at2_889, tk2_890, fk2_891, rfl, rfl, hW892, hF893, e894, e895, e896, p897, p898, q899⟩ := hq
                      have hF900 := Fr_tr hF866 hF893 (Fr_sub (by decide)) (Fr_sub (by decide))
                      have hP901 := Pf_f hP867 hF893 (by decide)
                      have hS902 := Fx_f hS868 hF893 (by decide)
                      have hV903 := Fx_f hV869 hF893 (by decide)
                      have hK904 := Fx_f hK870 hF893 (by decide)
                      have ec905 : ecn A888 (G887 31) = ec := (ecn_f (hF893.2 15 rfl) (hF893.1 31 rfl)).trans ec871
                      have bat2_889 : (0 : Int) ≤ at2_889 ∧ at2_889 ≤ 3002 := e894 ▸ hW892.1 10
                      have ztk2_890 := tz_b tk2_890
                      have btk2_890 : (0 : Int) ≤ tk2_890 ∧ tk2_890 ≤ 5 := e895 ▸ hW892.1 11
                      have bfk2_891 : (0 : Int) ≤ fk2_891 ∧ fk2_891 ≤ 6 := e896 ▸ hW892.1 16
                      refine .inl ⟨rfl, ?_⟩
                      rcases q899 with ⟨a906, a907, a908, a909⟩ | ⟨a910, a911, a912, a913⟩
                      · have _q : True := trivial
                        refine jx_ld (pc' := 110) (l' := L837) (st' := [.ref 66]) rfl (jl_aloadn gL837_0) ?_
                        refine jr_get (pc' := 113) (i := 47) (v := .ref 96) rfl rfl (by decide) rfl rfl ?_
                        refine jx_ld (pc' := 114) (l' := L837) (st' := [.ref 66, .ref 96]) rfl (jl_aloadn gL837_0) ?_
                        refine jr_get (pc' := 117) (i := 46) (v := .int (i32 (pc0))) rfl rfl (by decide) (rFv_eq (by decide) (show G887 46 = pc0 from ((hF893.1 46 rfl).trans ((hF859.1 46 rfl).trans ((hF811.1 46 rfl).trans ((hF774.1 46 rfl).trans (e_pc0))))))) rfl ?_
                        refine jx_ld (pc' := 118) (l' := L837) (st' := [.ref 66, .int (i32 (pc0)), .ref 96]) rfl (jl_aloadn gL837_0) ?_
                        refine jr_get (pc' := 121) (i := 19) (v := .int (i32 (sy2_806))) rfl rfl (by decide) (rFv_eq (by decide) (show G887 19 = sy2_806 from ((hF893.1 19 rfl).trans ((hF859.1 19 rfl).trans (e814))))) rfl ?_
                        refine jr_st (pc' := 122) (i := 29) (m := 25) (z := pc0) (y := sy2_806) rfl (by decide) rfl (by decide) (by omega) (by omega) rfl ?_
                        have hW915 : Wk G887 (uA A888 29 (pc0).toNat (sy2_806)) := Wk_a hW892 (show (0 : Int) ≤ sy2_806 by omega) (show sy2_806 ≤ (202 : Int) by omega)
                        have hF916 := Fr_a (z := sy2_806) (k := 29) (n := (pc0).toNat) hF900 (by decide)
                        obtain ⟨A914, eA914⟩ : ∃ q, q = uA A888 29 (pc0).toNat (sy2_806) := ⟨_, rfl⟩
                        rw [← eA914]
                        rw [← eA914] at hW915 hF916
                        have q917 : A914 29 (pc0).toNat = sy2_806 := by rw [eA914]; exact uA_eq
                        have hP918 : Pf nd A A914 := eA914 ▸ Pf_n hP901 rfl
                        have hS919 : Fx sr (sy) A A914 := eA914 ▸ Fx_n hS902 rfl
                        have hV920 : Fx [14] (vi) A A914 := eA914 ▸ Fx_n hV903 rfl
                        have hK921 : Fx [29, 30, 31] (pc0) A A914 := eA914 ▸ Fx_a hK904 (z := pc0) (by omega) (by omega)
                        have ec922 : ecn A914 (G887 31) = ec := (ecn_e ((congrFun eA914 15).trans (uA_ne (by decide)))).trans ec905
                        refine jx_ar (pc' := 123) (st' := [.int (i32 (0))]) rfl rfl rfl rfl ?_
                        refine jx_ld (pc' := 124) (l' := jSto1 L837 2 (.int (i32 (0)))) (st' := []) rfl rfl ?_
                        obtain ⟨L923, eL923⟩ : ∃ q, q = jSto1 L837 2 (.int (i32 (0))) := ⟨_, rfl⟩
                        rw [← eL923]
                        have gL923_0 : jGet L923 0 = some (.ref 66) := eL923 ▸ jg_ne (by decide) gL837_0 rfl
                        have gL923_1 : jGet L923 1 = some (.int (i32 (sy))) := eL923 ▸ jg_ne (by decide) gL837_1 rfl
                        have gL923_2 : jGet L923 2 = some (.int (i32 (0))) := eL923 ▸ jg_eq
                        refine jx_ld (pc' := 125) (l' := L923) (st' := [.ref 66]) rfl (jl_aloadn gL923_0) ?_
                        refine jx_vr (pc' := 128) (as := []) (st := []) rfl rfl rfl rfl ⟨rfl, rfl, Nat.le_of_ble_eq_true rfl⟩ rfl rfl (c_bad (dd := d) (hd := by omega) (hW := hW915)  (fk := fk2_891) (e_fk := show G887 16 = fk2_891 from (e896))    ) (fun o V' hq => ?_)
                        obtain ⟨r924, rfl, rfl, b925, q926⟩ := hq
                        refine .inr ⟨_, rfl, ?_⟩
                        rcases q926 with ⟨rfl, a927⟩ | ⟨rfl, a928⟩
                        · have _q : True := trivial
                          refine jx_if_ne (pc' := 131) (tg := 144) rfl rfl rfl (by decide) (by decide) (fun h929 => ?_) (fun h929 => ?_)
                          · have _q := h929
                            refine jx_ar (pc' := 145) (st' := [.int (i32 (0))]) rfl rfl rfl rfl ?_
                            refine jx_ld (pc' := 146) (l' := jSto1 L923 3 (.int (i32 (0)))) (st' := []) rfl rfl ?_
                            obtain ⟨L930, eL930⟩ : ∃ q, q = jSto1 L923 3 (.int (i32 (0))) := ⟨_, rfl⟩
                            rw [← eL930]
                            have gL930_0 : jGet L930 0 = some (.ref 66) := eL930 ▸ jg_ne (by decide) gL923_0 rfl
                            have gL930_1 : jGet L930 1 = some (.int (i32 (sy))) := eL930 ▸ jg_ne (by decide) gL923_1 rfl
                            have gL930_2 : jGet L930 2 = some (.int (i32 (0))) := eL930 ▸ jg_ne (by decide) gL923_2 rfl
                            have gL930_3 : jGet L930 3 = some (.int (i32 (0))) := eL930 ▸ jg_eq
                            refine jx_ld (pc' := 147) (l' := L930) (st' := [.ref 66]) rfl (jl_aloadn gL930_0) ?_
                            refine jx_vr (pc' := 150) (as := []) (st := []) rfl rfl rfl rfl ⟨rfl, rfl, Nat.le_of_ble_eq_true rfl⟩ rfl rfl (c_bad (dd := d) (hd := by omega) (hW := hW915)  (fk := fk2_891) (e_fk := show G887 16 = fk2_891 from (e896))    ) (fun o V' hq => ?_)
                            obtain ⟨r931, rfl, rfl, b932, q933⟩ := hq
                            refine .inr ⟨_, rfl, ?_⟩
                            rcases q933 with ⟨rfl, a934⟩ | ⟨rfl, a935⟩
                            · have _q : True := trivial
                              refine jx_if_ne (pc' := 153) (tg := 212) rfl rfl rfl (by decide) (by decide) (fun h936 => ?_) (fun h936 => ?_)
                              · have _q := h936
                                exact c_readProc_w_at_212p (X := X) (d := d) (Vs := Vs) (sb := sb) (pb := pb) (hvb := hvb) (c0 := c0) (c1 := c1) (G := G) (A := A) (T := T) (ln := ln) (li := li) (at0 := at0) (fk := fk) (nd := nd) (sy := sy) (na := na) (vi := vi) (le := le) (op0 := op0) (tk0 := tk0) (pc0 := pc0) (ec := ec) (hd := hd) (hW := hW) (e_ln := e_ln) (e_li := e_li) (e_at0 := e_at0) (e_fk := e_fk) (e_nd := e_nd) (e_sy := e_sy) (e_na := e_na) (e_vi := e_vi) (e_le := e_le) (e_op0 := e_op0) (e_tk0 := e_tk0) (e_pc0 := e_pc0) (e_ec := e_ec) (i_LT := i_LT) (i_SV := i_SV) (i_PQ := i_PQ) (p_0 := p_0) (p_1 := p_1) (p_2 := p_2) (p_3 := p_3) (p_4 := p_4) (p_5 := p_5) (p_6 := p_6) (p_7 := p_7) (p_8 := p_8) (p_9 := p_9) L930 G887 A914 (sy) (0) (at2_889) (fk2_891) (sy2_806) (na2_807) gL930_0 gL930_1 gL930_2 hW915 hF916 hP918 hS919 hV920 hK921 ((e894)) ((e896)) (((hF893.1 19 rfl).trans ((hF859.1 19 rfl).trans (e814)))) (((hF893.1 28 rfl).trans ((hF859.1 28 rfl).trans (e815)))) (((hF893.1 9 rfl).trans ((hF859.1 9 rfl).trans ((hF811.1 9 rfl).trans ((hF774.1 9 rfl).trans (e_ln)))))) (((hF893.1 29 rfl).trans ((hF859.1 29 rfl).trans ((hF811.1 29 rfl).trans ((hF774.1 29 rfl).trans (e_vi)))))) (((hF893.1 46 rfl).trans ((hF859.1 46 rfl).trans ((hF811.1 46 rfl).trans ((hF774.1 46 rfl).trans (e_pc0)))))) (((hF893.1 31 rfl).trans ((hF859.1 31 rfl).trans ((hF811.1 31 rfl).trans ((hF774.1 31 rfl).trans (e_nd)))))) (ec922) (by omega) (by omega) (by omega) (by omega) (by omega) (by omega) (by omega) (by omega) (by omega)
                              · have _q := h936
                                exact absurd h936 (by omega)
                            · have _q : True := trivial
                              exfalso
                              omega
                          · have _q := h929
                            exact absurd h929 (by omega)
                        · have _q : True := trivial
                          exfalso
                          omega
                      · have _q : True := trivial
                        exfalso
                        omega
                    · have _q : True := trivial
                      refine jx_vr (pc' := 109) (as := [.int (i32 (0))]) (st := []) rfl rfl rfl rfl ⟨rfl, rfl, Nat.le_of_ble_eq_true rfl⟩ rfl rfl (c_need (dd := d) (hd := by omega) (hW := hW858) (g := 0) (ln := ln) (e_ln := show G853 9 = ln from ((hF859.1 9 rfl).trans ((hF811.1 9 rfl).trans ((hF774.1 9 rfl).trans (e_ln))))) (le := le) (e_le := show A854 4 (ln).toNat = le from (congrFun ((hF859.2 4 rfl).trans (((congrFun eA844 4).trans (uA_ne (by decide))).trans ((hF811.2 4 rfl).trans (hF774.2 4 rfl)))) _).trans (e_le)) (at0 := at2_855) (e_at0 := show G853 10 = at2_855 from (e860)) (fk := fk2_857) (e_fk := show G853 16 = fk2_857 from (e862)) (tk0 := tk2_856) (e_tk0 := show G853 11 = tk2_856 from (e861))  (h_g := ⟨(by decide), (by decide)⟩)  (p_0 := by omega)) (fun o V' hq => ?_)
                      obtain ⟨G937, A938, at2_939, tk2_940, fk2_941, rfl, rfl, hW942, hF943, e944, e945, e946, p947, p948, q949⟩ := hq
                      have hF950 := Fr_tr hF866 hF943 (Fr_sub (by decide)) (Fr_sub (by decide))
                      have hP951 := Pf_f hP867 hF943 (by decide)
                      have hS952 := Fx_f hS868 hF943 (by decide)
                      have hV953 := Fx_f hV869 hF943 (by decide)
                      have hK954 := Fx_f hK870 hF943 (by decide)
                      have ec955 : ecn A938 (G937 31) = ec := (ecn_f (hF943.2 15 rfl) (hF943.1 31 rfl)).trans ec871
                      have bat2_939 : (0 : Int) ≤ at2_939 ∧ at2_939 ≤ 3002 := e944 ▸ hW942.1 10
                      have ztk2_940 := tz_b tk2_940
                      have btk2_940 : (0 : Int) ≤ tk2_940 ∧ tk2_940 ≤ 5 := e945 ▸ hW942.1 11
                      have bfk2_941 : (0 : Int) ≤ fk2_941 ∧ fk2_941 ≤ 6 := e946 ▸ hW942.1 16
                      refine .inl ⟨rfl, ?_⟩
                      rcases q949 with ⟨a956, a957, a958, a959⟩ | ⟨a960, a961, a962, a963⟩
                      · have _q : True := trivial
                        refine jx_ld (pc' := 110) (l' := L837) (st' := [.ref 66]) rfl (jl_aloadn gL837_0) ?_
                        refine jr_get (pc' := 113) (i := 47) (v := .ref 96) rfl rfl (by decide) rfl rfl ?_
                        refine jx_ld (pc' := 114) (l' := L837) (st' := [.ref 66, .ref 96]) rfl (jl_aloadn gL837_0) ?_
                        refine jr_get (pc' := 117) (i := 46) (v := .int (i32 (pc0))) rfl rfl (by decide) (rFv_eq (by decide) (show G937 46 = pc0 from ((hF943.1 46 rfl).trans ((hF859.1 46 rfl).trans ((hF811.1 46 rfl).trans ((hF774.1 46 rfl).trans (e_pc0))))))) rfl ?_
                        refine jx_ld (pc' := 118) (l' := L837) (st' := [.ref 66, .int (i32 (pc0)), .ref 96]) rfl (jl_aloadn gL837_0) ?_
                        refine jr_get (pc' := 121) (i := 19) (v := .int (i32 (sy2_806))) rfl rfl (by decide) (rFv_eq (by decide) (show G937 19 = sy2_806 from ((hF943.1 19 rfl).trans ((hF859.1 19 rfl).trans (e814))))) rfl ?_
                        refine jr_st (pc' := 122) (i := 29) (m := 25) (z := pc0) (y := sy2_806) rfl (by decide) rfl (by decide) (by omega) (by omega) rfl ?_
                        have hW965 : Wk G937 (uA A938 29 (pc0).toNat (sy2_806)) := Wk_a hW942 (show (0 : Int) ≤ sy2_806 by omega) (show sy2_806 ≤ (202 : Int) by omega)
                        have hF966 := Fr_a (z := sy2_806) (k := 29) (n := (pc0).toNat) hF950 (by decide)
                        obtain ⟨A964, eA964⟩ : ∃ q, q = uA A938 29 (pc0).toNat (sy2_806) := ⟨_, rfl⟩
                        rw [← eA964]
                        rw [← eA964] at hW965 hF966
                        have q967 : A964 29 (pc0).toNat = sy2_806 := by rw [eA964]; exact uA_eq
                        have hP968 : Pf nd A A964 := eA964 ▸ Pf_n hP951 rfl
                        have hS969 : Fx sr (sy) A A964 := eA964 ▸ Fx_n hS952 rfl
                        have hV970 : Fx [14] (vi) A A964 := eA964 ▸ Fx_n hV953 rfl
                        have hK971 : Fx [29, 30, 31] (pc0) A A964 := eA964 ▸ Fx_a hK954 (z := pc0) (by omega) (by omega)
                        have ec972 : ecn A964 (G937 31) = ec := (ecn_e ((congrFun eA964 15).trans (uA_ne (by decide)))).trans ec955
                        refine jx_ar (pc' := 123) (st' := [.int (i32 (0))]) rfl rfl rfl rfl ?_
                        refine jx_ld (pc' := 124) (l' := jSto1 L837 2 (.int (i32 (0)))) (st' := []) rfl rfl ?_
                        obtain ⟨L973, eL973⟩ : ∃ q, q = jSto1 L837 2 (.int (i32 (0))) := ⟨_, rfl⟩
                        rw [← eL973]
                        have gL973_0 : jGet L973 0 = some (.ref 66) := eL973 ▸ jg_ne (by decide) gL837_0 rfl
                        have gL973_1 : jGet L973 1 = some (.int (i32 (sy))) := eL973 ▸ jg_ne (by decide) gL837_1 rfl
                        have gL973_2 : jGet L973 2 = some (.int (i32 (0))) := eL973 ▸ jg_eq
                        refine jx_ld (pc' := 125) (l' := L973) (st' := [.ref 66]) rfl (jl_aloadn gL973_0) ?_
                        refine jx_vr (pc' := 128) (as := []) (st := []) rfl rfl rfl rfl ⟨rfl, rfl, Nat.le_of_ble_eq_true rfl⟩ rfl rfl (c_bad (dd := d) (hd := by omega) (hW := hW965)  (fk := fk2_941) (e_fk := show G937 16 = fk2_941 from (e946))    ) (fun o V' hq => ?_)
                        obtain ⟨r974, rfl, rfl, b975, q976⟩ := hq
                        refine .inr ⟨_, rfl, ?_⟩
                        rcases q976 with ⟨rfl, a977⟩ | ⟨rfl, a978⟩
                        · have _q : True := trivial
                          refine jx_if_ne (pc' := 131) (tg := 144) rfl rfl rfl (by decide) (by decide) (fun h979 => ?_) (fun h979 => ?_)
                          · have _q := h979
                            refine jx_ar (pc' := 145) (st' := [.int (i32 (0))]) rfl rfl rfl rfl ?_
                            refine jx_ld (pc' := 146) (l' := jSto1 L973 3 (.int (i32 (0)))) (st' := []) rfl rfl ?_
                            obtain ⟨L980, eL980⟩ : ∃ q, q = jSto1 L973 3 (.int (i32 (0))) := ⟨_, rfl⟩
                            rw [← eL980]
                            have gL980_0 : jGet L980 0 = some (.ref 66) := eL980 ▸ jg_ne (by decide) gL973_0 rfl
                            have gL980_1 : jGet L980 1 = some (.int (i32 (sy))) := eL980 ▸ jg_ne (by decide) gL973_1 rfl
                            have gL980_2 : jGet L980 2 = some (.int (i32 (0))) := eL980 ▸ jg_ne (by decide) gL973_2 rfl
                            have gL980_3 : jGet L980 3 = some (.int (i32 (0))) := eL980 ▸ jg_eq
                            refine jx_ld (pc' := 147) (l' := L980) (st' := [.ref 66]) rfl (jl_aloadn gL980_0) ?_
                            refine jx_vr (pc' := 150) (as := []) (st := []) rfl rfl rfl rfl ⟨rfl, rfl, Nat.le_of_ble_eq_true rfl⟩ rfl rfl (c_bad (dd := d) (hd := by omega) (hW := hW965)  (fk := fk2_941) (e_fk := show G937 16 = fk2_941 from (e946))    ) (fun o V' hq => ?_)
                            obtain ⟨r981, rfl, rfl, b982, q983⟩ := hq
                            refine .inr ⟨_, rfl, ?_⟩
                            rcases q983 with ⟨rfl, a984⟩ | ⟨rfl, a985⟩
                            · have _q : True := trivial
                              refine jx_if_ne (pc' := 153) (tg := 212) rfl rfl rfl (by decide) (by decide) (fun h986 => ?_) (fun h986 => ?_)
                              · have _q := h986
                                exact c_readProc_w_at_212p (X := X) (d := d) (Vs := Vs) (sb := sb) (pb := pb) (hvb := hvb) (c0 := c0) (c1 := c1) (G := G) (A := A) (T := T) (ln := ln) (li := li) (at0 := at0) (fk := fk) (nd := nd) (sy := sy) (na := na) (vi := vi) (le := le) (op0 := op0) (tk0 := tk0) (pc0 := pc0) (ec := ec) (hd := hd) (hW := hW) (e_ln := e_ln) (e_li := e_li) (e_at0 := e_at0) (e_fk := e_fk) (e_nd := e_nd) (e_sy := e_sy) (e_na := e_na) (e_vi := e_vi) (e_le := e_le) (e_op0 := e_op0) (e_tk0 := e_tk0) (e_pc0 := e_pc0) (e_ec := e_ec) (i_LT := i_LT) (i_SV := i_SV) (i_PQ := i_PQ) (p_0 := p_0) (p_1 := p_1) (p_2 := p_2) (p_3 := p_3) (p_4 := p_4) (p_5 := p_5) (p_6 := p_6) (p_7 := p_7) (p_8 := p_8) (p_9 := p_9) L980 G937 A964 (sy) (0) (at2_939) (fk2_941) (sy2_806) (na2_807) gL980_0 gL980_1 gL980_2 hW965 hF966 hP968 hS969 hV970 hK971 ((e944)) ((e946)) (((hF943.1 19 rfl).trans ((hF859.1 19 rfl).trans (e814)))) (((hF943.1 28 rfl).trans ((hF859.1 28 rfl).trans (e815)))) (((hF943.1 9 rfl).trans ((hF859.1 9 rfl).trans ((hF811.1 9 rfl).trans ((hF774.1 9 rfl).trans (e_ln)))))) (((hF943.1 29 rfl).trans ((hF859.1 29 rfl).trans ((hF811.1 29 rfl).trans ((hF774.1 29 rfl).trans (e_vi)))))) (((hF943.1 46 rfl).trans ((hF859.1 46 rfl).trans ((hF811.1 46 rfl).trans ((hF774.1 46 rfl).trans (e_pc0)))))) (((hF943.1 31 rfl).trans ((hF859.1 31 rfl).trans ((hF811.1 31 rfl).trans ((hF774.1 31 rfl).trans (e_nd)))))) (ec972) (by omega) (by omega) (by omega) (by omega) (by omega) (by omega) (by omega) (by omega) (by omega)
                              · have _q := h986
                                exact absurd h986 (by omega)
                            · have _q : True := trivial
                              exfalso
                              omega
                          · have _q := h979
                            exact absurd h979 (by omega)
                        · have _q : True := trivial
                          exfalso
                          omega
                      · have _q : True := trivial
                        exfalso
                        omega
                  · have _q : True := trivial
                    refine jx_ld (pc' := 100) (l' := L837) (st' := [.ref 66]) rfl (jl_aloadn gL837_0) ?_
                    refine jx_ld (pc' := 101) (l' := L837) (st' := [.ref 66, .ref 66]) rfl (jl_aloadn gL837_0) ?_
                    refine jx_ar (pc' := 103) (st' := [.int (i32 (40)), .ref 66, .ref 66]) rfl rfl rfl rfl ?_
                    have b987 : (-2147483648 : Int) ≤ G853 13 ∧ G853 13 ≤ 2147483647 := hW858.1 13
                    refine jx_vr (pc' := 106) (as := [.int (i32 (40))]) (st := [.ref 66]) rfl rfl rfl rfl ⟨rfl, rfl, Nat.le_of_ble_eq_true rfl⟩ rfl rfl (c_is (dd := d) (hd := by omega) (hW := hW858) (k := 40) (tk := tk2_856) (e_tk := show G853 11 = tk2_856 from (e861)) (tn := G853 13) (e_tn := show G853 13 = G853 13 from rfl)  (h_k := ⟨(by decide), (by decide)⟩)  ) (fun o V' hq => ?_)
                    obtain ⟨r988, rfl, rfl, b989, q990⟩ := hq
                    refine .inr ⟨_, rfl, ?_⟩
                    rcases q990 with ⟨rfl, a991, a992, a993⟩ | rfl
                    · have _q : True := trivial
                      refine jx_vr (pc' := 109) (as := [.int (i32 (1))]) (st := []) rfl rfl rfl rfl ⟨rfl, rfl, Nat.le_of_ble_eq_true rfl⟩ rfl rfl (c_need (dd := d) (hd := by omega) (hW := hW858) (g := 1) (ln := ln) (e_ln := show G853 9 = ln from ((hF859.1 9 rfl).trans ((hF811.1 9 rfl).trans ((hF774.1 9 rfl).trans (e_ln))))) (le := le) (e_le := show A854 4 (ln).toNat = le from (congrFun ((hF859.2 4 rfl).trans (((congrFun eA844 4).trans (uA_ne (by decide))).trans ((hF811.2 4 rfl).trans (hF774.2 4 rfl)))) _).trans (e_le)) (at0 := at2_855) (e_at0 := show G853 10 = at2_855 from (e860)) (fk := fk2_857) (e_fk := show G853 16 = fk2_857 from (e862)) (tk0 := tk2_856) (e_tk0 := show G853 11 = tk2_856 from (e861))  (h_g := ⟨(by decide), (by decide)⟩)  (p_0 := by omega)) (fun o V' hq => ?_)
                      obtain ⟨G994, A995, at2_996, tk2_997, fk2_998, rfl, rfl, hW999, hF1000, e1001, e1002, e1003, p1004, p1005, q1006⟩ := hq
                      have hF1007 := Fr_tr hF866 hF1000 (Fr_sub (by decide)) (Fr_sub (by decide))
                      have hP1008 := Pf_f hP867 hF1000 (by decide)
                      have hS1009 := Fx_f hS868 hF1000 (by decide)
                      have hV1010 := Fx_f hV869 hF1000 (by decide)
                      have hK1011 := Fx_f hK870 hF1000 (by decide)
                      have ec1012 : ecn A995 (G994 31) = ec := (ecn_f (hF1000.2 15 rfl) (hF1000.1 31 rfl)).trans ec871
                      have bat2_996 : (0 : Int) ≤ at2_996 ∧ at2_996 ≤ 3002 := e1001 ▸ hW999.1 10
                      have ztk2_997 := tz_b tk2_997
                      have btk2_997 : (0 : Int) ≤ tk2_997 ∧ tk2_997 ≤ 5 := e1002 ▸ hW999.1 11
                      have bfk2_998 : (0 : Int) ≤ fk2_998 ∧ fk2_998 ≤ 6 := e1003 ▸ hW999.1 16
                      refine .inl ⟨rfl, ?_⟩
                      rcases q1006 with ⟨a1013, a1014, a1015, a1016⟩ | ⟨a1017, a1018, a1019, a1020⟩
                      · have _q : True := trivial
                        refine jx_ld (pc' := 110) (l' := L837) (st' := [.ref 66]) rfl (jl_aloadn gL837_0) ?_
                        refine jr_get (pc' := 113) (i := 47) (v := .ref 96) rfl rfl (by decide) rfl rfl ?_
                        refine jx_ld (pc' := 114) (l' := L837) (st' := [.ref 66, .ref 96]) rfl (jl_aloadn gL837_0) ?_
                        refine jr_get (pc' := 117) (i := 46) (v := .int (i32 (pc0))) rfl rfl (by decide) (rFv_eq (by decide) (show G994 46 = pc0 from ((hF1000.1 46 rfl).trans ((hF859.1 46 rfl).trans ((hF811.1 46 rfl).trans ((hF774.1 46 rfl).trans (e_pc0))))))) rfl ?_
                        refine jx_ld (pc' := 118) (l' := L837) (st' := [.ref 66, .int (i32 (pc0)), .ref 96]) rfl (jl_aloadn gL837_0) ?_
                        refine jr_get (pc' := 121) (i := 19) (v := .int (i32 (sy2_806))) rfl rfl (by decide) (rFv_eq (by decide) (show G994 19 = sy2_806 from ((hF1000.1 19 rfl).trans ((hF859.1 19 rfl).trans (e814))))) rfl ?_
                        refine jr_st (pc' := 122) (i := 29) (m := 25) (z := pc0) (y := sy2_806) rfl (by decide) rfl (by decide) (by omega) (by omega) rfl ?_
                        have hW1022 : Wk G994 (uA A995 29 (pc0).toNat (sy2_806)) := Wk_a hW999 (show (0 : Int) ≤ sy2_806 by omega) (show sy2_806 ≤ (202 : Int) by omega)
                        have hF1023 := Fr_a (z := sy2_806) (k := 29) (n := (pc0).toNat) hF1007 (by decide)
                        obtain ⟨A1021, eA1021⟩ : ∃ q, q = uA A995 29 (pc0).toNat (sy2_806) := ⟨_, rfl⟩
                        rw [← eA1021]
                        rw [← eA1021] at hW1022 hF1023
                        have q1024 : A1021 29 (pc0).toNat = sy2_806 := by rw [eA1021]; exact uA_eq
                        have hP1025 : Pf nd A A1021 := eA1021 ▸ Pf_n hP1008 rfl
                        have hS1026 : Fx sr (sy) A A1021 := eA1021 ▸ Fx_n hS1009 rfl
                        have hV1027 : Fx [14] (vi) A A1021 := eA1021 ▸ Fx_n hV1010 rfl
                        have hK1028 : Fx [29, 30, 31] (pc0) A A1021 := eA1021 ▸ Fx_a hK1011 (z := pc0) (by omega) (by omega)
                        have ec1029 : ecn A1021 (G994 31) = ec := (ecn_e ((congrFun eA1021 15).trans (uA_ne (by decide)))).trans ec1012
                        refine jx_ar (pc' := 123) (st' := [.int (i32 (0))]) rfl rfl rfl rfl ?_
                        refine jx_ld (pc' := 124) (l' := jSto1 L837 2 (.int (i32 (0)))) (st' := []) rfl rfl ?_
                        obtain ⟨L1030, eL1030⟩ : ∃ q, q = jSto1 L837 2 (.int (i32 (0))) := ⟨_, rfl⟩
                        rw [← eL1030]
                        have gL1030_0 : jGet L1030 0 = some (.ref 66) := eL1030 ▸ jg_ne (by decide) gL837_0 rfl
                        have gL1030_1 : jGet L1030 1 = some (.int (i32 (sy))) := eL1030 ▸ jg_ne (by decide) gL837_1 rfl
                        have gL1030_2 : jGet L1030 2 = some (.int (i32 (0))) := eL1030 ▸ jg_eq
                        refine jx_ld (pc' := 125) (l' := L1030) (st' := [.ref 66]) rfl (jl_aloadn gL1030_0) ?_
                        refine jx_vr (pc' := 128) (as := []) (st := []) rfl rfl rfl rfl ⟨rfl, rfl, Nat.le_of_ble_eq_true rfl⟩ rfl rfl (c_bad (dd := d) (hd := by omega) (hW := hW1022)  (fk := fk2_998) (e_fk := show G994 16 = fk2_998 from (e1003))    ) (fun o V' hq => ?_)
                        obtain ⟨r1031, rfl, rfl, b1032, q1033⟩ := hq
                        refine .inr ⟨_, rfl, ?_⟩
                        rcases q1033 with ⟨rfl, a1034⟩ | ⟨rfl, a1035⟩
                        · have _q : True := trivial
                          refine jx_if_ne (pc' := 131) (tg := 144) rfl rfl rfl (by decide) (by decide) (fun h1036 => ?_) (fun h1036 => ?_)
                          · have _q := h1036
                            refine jx_ar (pc' := 145) (st' := [.int (i32 (0))]) rfl rfl rfl rfl ?_
                            refine jx_ld (pc' := 146) (l' := jSto1 L1030 3 (.int (i32 (0)))) (st' := []) rfl rfl ?_
                            obtain ⟨L1037, eL1037⟩ : ∃ q, q = jSto1 L1030 3 (.int (i32 (0))) := ⟨_, rfl⟩
                            rw [← eL1037]
                            have gL1037_0 : jGet L1037 0 = some (.ref 66) := eL1037 ▸ jg_ne (by decide) gL1030_0 rfl
                            have gL1037_1 : jGet L1037 1 = some (.int (i32 (sy))) := eL1037 ▸ jg_ne (by decide) gL1030_1 rfl
                            have gL1037_2 : jGet L1037 2 = some (.int (i32 (0))) := eL1037 ▸ jg_ne (by decide) gL1030_2 rfl
                            have gL1037_3 : jGet L1037 3 = some (.int (i32 (0))) := eL1037 ▸ jg_eq
                            refine jx_ld (pc' := 147) (l' := L1037) (st' := [.ref 66]) rfl (jl_aloadn gL1037_0) ?_
                            refine jx_vr (pc' := 150) (as := []) (st := []) rfl rfl rfl rfl ⟨rfl, rfl, Nat.le_of_ble_eq_true rfl⟩ rfl rfl (c_bad (dd := d) (hd := by omega) (hW := hW1022)  (fk := fk2_998) (e_fk := show G994 16 = fk2_998 from (e1003))    ) (fun o V' hq => ?_)
                            obtain ⟨r1038, rfl, rfl, b1039, q1040⟩ := hq
                            refine .inr ⟨_, rfl, ?_⟩
                            rcases q1040 with ⟨rfl, a1041⟩ | ⟨rfl, a1042⟩
                            · have _q : True := trivial
                              refine jx_if_ne (pc' := 153) (tg := 212) rfl rfl rfl (by decide) (by decide) (fun h1043 => ?_) (fun h1043 => ?_)
                              · have _q := h1043
                                exact c_readProc_w_at_212p (X := X) (d := d) (Vs := Vs) (sb := sb) (pb := pb) (hvb := hvb) (c0 := c0) (c1 := c1) (G := G) (A := A) (T := T) (ln := ln) (li := li) (at0 := at0) (fk := fk) (nd := nd) (sy := sy) (na := na) (vi := vi) (le := le) (op0 := op0) (tk0 := tk0) (pc0 := pc0) (ec := ec) (hd := hd) (hW := hW) (e_ln := e_ln) (e_li := e_li) (e_at0 := e_at0) (e_fk := e_fk) (e_nd := e_nd) (e_sy := e_sy) (e_na := e_na) (e_vi := e_vi) (e_le := e_le) (e_op0 := e_op0) (e_tk0 := e_tk0) (e_pc0 := e_pc0) (e_ec := e_ec) (i_LT := i_LT) (i_SV := i_SV) (i_PQ := i_PQ) (p_0 := p_0) (p_1 := p_1) (p_2 := p_2) (p_3 := p_3) (p_4 := p_4) (p_5 := p_5) (p_6 := p_6) (p_7 := p_7) (p_8 := p_8) (p_9 := p_9) L1037 G994 A1021 (sy) (0) (at2_996) (fk2_998) (sy2_806) (na2_807) gL1037_0 gL1037_1 gL1037_2 hW1022 hF1023 hP1025 hS1026 hV1027 hK1028 ((e1001)) ((e1003)) (((hF1000.1 19 rfl).trans ((hF859.1 19 rfl).trans (e814)))) (((hF1000.1 28 rfl).trans ((hF859.1 28 rfl).trans (e815)))) (((hF1000.1 9 rfl).trans ((hF859.1 9 rfl).trans ((hF811.1 9 rfl).trans ((hF774.1 9 rfl).trans (e_ln)))))) (((hF1000.1 29 rfl).trans ((hF859.1 29 rfl).trans ((hF811.1 29 rfl).trans ((hF774.1 29 rfl).trans (e_vi)))))) (((hF1000.1 46 rfl).trans ((hF859.1 46 rfl).trans ((hF811.1 46 rfl).trans ((hF774.1 46 rfl).trans (e_pc0)))))) (((hF1000.1 31 rfl).trans ((hF859.1 31 rfl).trans ((hF811.1 31 rfl).trans ((hF774.1 31 rfl).trans (e_nd)))))) (ec1029) (by omega) (by omega) (by omega) (by omega) (by omega) (by omega) (by omega) (by omega) (by omega)
                              · have _q := h1043
                                exact absurd h1043 (by omega)
                            · have _q : True := trivial
                              exfalso
                              omega
                          · have _q := h1036
                            exact absurd h1036 (by omega)
                        · have _q : True := trivial
                          exfalso
                          omega
                      · have _q : True := trivial
                        refine jx_ld (pc' := 110) (l' := L837) (st' := [.ref 66]) rfl (jl_aloadn gL837_0) ?_
                        refine jr_get (pc' := 113) (i := 47) (v := .ref 96) rfl rfl (by decide) rfl rfl ?_
                        refine jx_ld (pc' := 114) (l' := L837) (st' := [.ref 66, .ref 96]) rfl (jl_aloadn gL837_0) ?_
                        refine jr_get (pc' := 117) (i := 46) (v := .int (i32 (pc0))) rfl rfl (by decide) (rFv_eq (by decide) (show G994 46 = pc0 from ((hF1000.1 46 rfl).trans ((hF859.1 46 rfl).trans ((hF811.1 46 rfl).trans ((hF774.1 46 rfl).trans (e_pc0))))))) rfl ?_
                        refine jx_ld (pc' := 118) (l' := L837) (st' := [.ref 66, .int (i32 (pc0)), .ref 96]) rfl (jl_aloadn gL837_0) ?_
                        refine jr_get (pc' := 121) (i := 19) (v := .int (i32 (sy2_806))) rfl rfl (by decide) (rFv_eq (by decide) (show G994 19 = sy2_806 from ((hF1000.1 19 rfl).trans ((hF859.1 19 rfl).trans (e814))))) rfl ?_
                        refine jr_st (pc' := 122) (i := 29) (m := 25) (z := pc0) (y := sy2_806) rfl (by decide) rfl (by decide) (by omega) (by omega) rfl ?_
                        have hW1045 : Wk G994 (uA A995 29 (pc0).toNat (sy2_806)) := Wk_a hW999 (show (0 : Int) ≤ sy2_806 by omega) (show sy2_806 ≤ (202 : Int) by omega)
                        have hF1046 := Fr_a (z := sy2_806) (k := 29) (n := (pc0).toNat) hF1007 (by decide)
                        obtain ⟨A1044, eA1044⟩ : ∃ q, q = uA A995 29 (pc0).toNat (sy2_806) := ⟨_, rfl⟩
                        rw [← eA1044]
                        rw [← eA1044] at hW1045 hF1046
                        have q1047 : A1044 29 (pc0).toNat = sy2_806 := by rw [eA1044]; exact uA_eq
                        have hP1048 : Pf nd A A1044 := eA1044 ▸ Pf_n hP1008 rfl
                        have hS1049 : Fx sr (sy) A A1044 := eA1044 ▸ Fx_n hS1009 rfl
                        have hV1050 : Fx [14] (vi) A A1044 := eA1044 ▸ Fx_n hV1010 rfl
                        have hK1051 : Fx [29, 30, 31] (pc0) A A1044 := eA1044 ▸ Fx_a hK1011 (z := pc0) (by omega) (by omega)
                        have ec1052 : ecn A1044 (G994 31) = ec := (ecn_e ((congrFun eA1044 15).trans (uA_ne (by decide)))).trans ec1012
                        refine jx_ar (pc' := 123) (st' := [.int (i32 (0))]) rfl rfl rfl rfl ?_
                        refine jx_ld (pc' := 124) (l' := jSto1 L837 2 (.int (i32 (0)))) (st' := []) rfl rfl ?_
                        obtain ⟨L1053, eL1053⟩ : ∃ q, q = jSto1 L837 2 (.int (i32 (0))) := ⟨_, rfl⟩
                        rw [← eL1053]
                        have gL1053_0 : jGet L1053 0 = some (.ref 66) := eL1053 ▸ jg_ne (by decide) gL837_0 rfl
                        have gL1053_1 : jGet L1053 1 = some (.int (i32 (sy))) := eL1053 ▸ jg_ne (by decide) gL837_1 rfl
                        have gL1053_2 : jGet L1053 2 = some (.int (i32 (0))) := eL1053 ▸ jg_eq
                        refine jx_ld (pc' := 125) (l' := L1053) (st' := [.ref 66]) rfl (jl_aloadn gL1053_0) ?_
                        refine jx_vr (pc' := 128) (as := []) (st := []) rfl rfl rfl rfl ⟨rfl, rfl, Nat.le_of_ble_eq_true rfl⟩ rfl rfl (c_bad (dd := d) (hd := by omega) (hW := hW1045)  (fk := fk2_998) (e_fk := show G994 16 = fk2_998 from (e1003))    ) (fun o V' hq => ?_)
                        obtain ⟨r1054, rfl, rfl, b1055, q1056⟩ := hq
                        refine .inr ⟨_, rfl, ?_⟩
                        rcases q1056 with ⟨rfl, a1057⟩ | ⟨rfl, a1058⟩
                        · have _q : True := trivial
                          exfalso
                          omega
                        · have _q : True := trivial
                          refine jx_if_ne (pc' := 131) (tg := 144) rfl rfl rfl (by decide) (by decide) (fun h1059 => ?_) (fun h1059 => ?_)
                          · have _q := h1059
                            exact absurd h1059 (by omega)
                          · have _q := h1059
                            refine jx_ld (pc' := 132) (l' := L1053) (st' := [.ref 66]) rfl (jl_aloadn gL1053_0) ?_
                            refine jx_ar (pc' := 134) (st' := [.int (i32 (41)), .ref 66]) rfl rfl rfl rfl ?_
                            have b1060 : (-2147483648 : Int) ≤ G994 13 ∧ G994 13 ≤ 2147483647 := hW999.1 13
                            refine jx_vr (pc' := 137) (as := [.int (i32 (41))]) (st := []) rfl rfl rfl rfl ⟨rfl, rfl, Nat.le_of_ble_eq_true rfl⟩ rfl rfl (c_is (dd := d) (hd := by omega) (hW := hW1045) (k := 41) (tk := tk2_997) (e_tk := show G994 11 = tk2_997 from (e1002)) (tn := G994 13) (e_tn := show G994 13 = G994 13 from rfl)  (h_k := ⟨(by decide), (by decide)⟩)  ) (fun o V' hq => ?_)
                            obtain ⟨r1061, rfl, rfl, b1062, q1063⟩ := hq
                            refine .inr ⟨_, rfl, ?_⟩
                            rcases q1063 with ⟨rfl, a1064, a1065, a1066⟩ | rfl
                            · have _q : True := trivial
                              refine jx_if_ne (pc' := 140) (tg := 144) rfl rfl rfl (by decide) (by decide) (fun h1067 => ?_) (fun h1067 => ?_)
                              · have _q := h1067
                                refine jx_ar (pc' := 145) (st' := [.int (i32 (0))]) rfl rfl rfl rfl ?_
                                refine jx_ld (pc' := 146) (l' := jSto1 L1053 3 (.int (i32 (0)))) (st' := []) rfl rfl ?_
                                obtain ⟨L1068, eL1068⟩ : ∃ q, q = jSto1 L1053 3 (.int (i32 (0))) := ⟨_, rfl⟩
                                rw [← eL1068]
                                have gL1068_0 : jGet L1068 0 = some (.ref 66) := eL1068 ▸ jg_ne (by decide) gL1053_0 rfl
                                have gL1068_1 : jGet L1068 1 = some (.int (i32 (sy))) := eL1068 ▸ jg_ne (by decide) gL1053_1 rfl
                                have gL1068_2 : jGet L1068 2 = some (.int (i32 (0))) := eL1068 ▸ jg_ne (by decide) gL1053_2 rfl
                                have gL1068_3 : jGet L1068 3 = some (.int (i32 (0))) := eL1068 ▸ jg_eq
                                exact c_readProc_w_at_146 (X := X) (d := d) (Vs := Vs) (sb := sb) (pb := pb) (hvb := hvb) (c0 := c0) (c1 := c1) (G := G) (A := A) (T := T) (ln := ln) (li := li) (at0 := at0) (fk := fk) (nd := nd) (sy := sy) (na := na) (vi := vi) (le := le) (op0 := op0) (tk0 := tk0) (pc0 := pc0) (ec := ec) (hd := hd) (hW := hW) (e_ln := e_ln) (e_li := e_li) (e_at0 := e_at0) (e_fk := e_fk) (e_nd := e_nd) (e_sy := e_sy) (e_na := e_na) (e_vi := e_vi) (e_le := e_le) (e_op0 := e_op0) (e_tk0 := e_tk0) (e_pc0 := e_pc0) (e_ec := e_ec) (i_LT := i_LT) (i_SV := i_SV) (i_PQ := i_PQ) (p_0 := p_0) (p_1 := p_1) (p_2 := p_2) (p_3 := p_3) (p_4 := p_4) (p_5 := p_5) (p_6 := p_6) (p_7 := p_7) (p_8 := p_8) (p_9 := p_9) _ L1068 G994 A1044 (sy) (0) (0) (at2_996) (tk2_997) (fk2_998) (sy2_806) (na2_807) (sy2_806) (yk2_809) (pc0) rfl gL1068_0 gL1068_1 gL1068_2 gL1068_3 hW1045 hF1046 hP1048 hS1049 hV1050 hK1051 ((e1001)) ((e1002)) ((e1003)) (((hF1000.1 19 rfl).trans ((hF859.1 19 rfl).trans (e814)))) (((hF1000.1 28 rfl).trans ((hF859.1 28 rfl).trans (e815)))) ((q1047)) ((congrFun (((congrFun eA1044 7).trans (uA_ne (by decide))).trans ((hF1000.2 7 rfl).trans ((hF859.2 7 rfl).trans ((congrFun eA844 7).trans (uA_ne (by decide)))))) _).trans (e817)) ((congrFun (((congrFun eA1044 12).trans (uA_ne (by decide))).trans ((hF1000.2 12 rfl).trans (hF859.2 12 rfl))) _).trans (q847)) (((hF1000.1 9 rfl).trans ((hF859.1 9 rfl).trans ((hF811.1 9 rfl).trans ((hF774.1 9 rfl).trans (e_ln)))))) (((hF1000.1 29 rfl).trans ((hF859.1 29 rfl).trans ((hF811.1 29 rfl).trans ((hF774.1 29 rfl).trans (e_vi)))))) (((hF1000.1 46 rfl).trans ((hF859.1 46 rfl).trans ((hF811.1 46 rfl).trans ((hF774.1 46 rfl).trans (e_pc0)))))) (((hF1000.1 31 rfl).trans ((hF859.1 31 rfl).trans ((hF811.1 31 rfl).trans ((hF774.1 31 rfl).trans (e_nd)))))) (ec1052) (by omega) (by omega) (by omega) (by omega) (by omega) (by omega) (by omega) (by omega) (by omega) (by omega) (by omega) (wM_nil) (by omega) (by omega) (by omega) (by omega) (by omega)
                              · have _q := h1067
                                exact absurd h1067 (by omega)
                            · have _q : True := trivial
                              refine jx_if_ne (pc' := 140) (tg := 144) rfl rfl rfl (by decide) (by decide) (fun h1069 => ?_) (fun h1069 => ?_)
                              · have _q := h1069
                                exact absurd h1069 (by omega)
                              · have _q := h1069
                                refine jx_ar (pc' := 141) (st' := [.int (i32 (1))]) rfl rfl rfl rfl ?_
                                refine jx_go (tg := 145) rfl rfl ?_
                                refine jx_ld (pc' := 146) (l' := jSto1 L1053 3 (.int (i32 (1)))) (st' := []) rfl rfl ?_
                                obtain ⟨L1070, eL1070⟩ : ∃ q, q = jSto1 L1053 3 (.int (i32 (1))) := ⟨_, rfl⟩
                                rw [← eL1070]
                                have gL1070_0 : jGet L1070 0 = some (.ref 66) := eL1070 ▸ jg_ne (by decide) gL1053_0 rfl
                                have gL1070_1 : jGet L1070 1 = some (.int (i32 (sy))) := eL1070 ▸ jg_ne (by decide) gL1053_1 rfl
                                have gL1070_2 : jGet L1070 2 = some (.int (i32 (0))) := eL1070 ▸ jg_ne (by decide) gL1053_2 rfl
                                have gL1070_3 : jGet L1070 3 = some (.int (i32 (1))) := eL1070 ▸ jg_eq
                                exact c_readProc_w_at_146 (X := X) (d := d) (Vs := Vs) (sb := sb) (pb := pb) (hvb := hvb) (c0 := c0) (c1 := c1) (G := G) (A := A) (T := T) (ln := ln) (li := li) (at0 := at0) (fk := fk) (nd := nd) (sy := sy) (na := na) (vi := vi) (le := le) (op0 := op0) (tk0 := tk0) (pc0 := pc0) (ec := ec) (hd := hd) (hW := hW) (e_ln := e_ln) (e_li := e_li) (e_at0 := e_at0) (e_fk := e_fk) (e_nd := e_nd) (e_sy := e_sy) (e_na := e_na) (e_vi := e_vi) (e_le := e_le) (e_op0 := e_op0) (e_tk0 := e_tk0) (e_pc0 := e_pc0) (e_ec := e_ec) (i_LT := i_LT) (i_SV := i_SV) (i_PQ := i_PQ) (p_0 := p_0) (p_1 := p_1) (p_2 := p_2) (p_3 := p_3) (p_4 := p_4) (p_5 := p_5) (p_6 := p_6) (p_7 := p_7) (p_8 := p_8) (p_9 := p_9) _ L1070 G994 A1044 (sy) (0) (1) (at2_996) (tk2_997) (fk2_998) (sy2_806) (na2_807) (sy2_806) (yk2_809) (pc0) rfl gL1070_0 gL1070_1 gL1070_2 gL1070_3 hW1045 hF1046 hP1048 hS1049 hV1050 hK1051 ((e1001)) ((e1002)) ((e1003)) (((hF1000.1 19 rfl).trans ((hF859.1 19 rfl).trans (e814)))) (((hF1000.1 28 rfl).trans ((hF859.1 28 rfl).trans (e815)))) ((q1047)) ((congrFun (((congrFun eA1044 7).trans (uA_ne (by decide))).trans ((hF1000.2 7 rfl).trans ((hF859.2 7 rfl).trans ((congrFun eA844 7).trans (uA_ne (by decide)))))) _).trans (e817)) ((congrFun (((congrFun eA1044 12).trans (uA_ne (by decide))).trans ((hF1000.2 12 rfl).trans (hF859.2 12 rfl))) _).trans (q847)) (((hF1000.1 9 rfl).trans ((hF859.1 9 rfl).trans ((hF811.1 9 rfl).trans ((hF774.1 9 rfl).trans (e_ln)))))) (((hF1000.1 29 rfl).trans ((hF859.1 29 rfl).trans ((hF811.1 29 rfl).trans ((hF774.1 29 rfl).trans (e_vi)))))) (((hF1000.1 46 rfl).trans ((hF859.1 46 rfl).trans ((hF811.1 46 rfl).trans ((hF774.1 46 rfl).trans (e_pc0)))))) (((hF1000.1 31 rfl).trans ((hF859.1 31 rfl).trans ((hF811.1 31 rfl).trans ((hF774.1 31 rfl).trans (e_nd)))))) (ec1052) (by omega) (by omega) (by omega) (by omega) (by omega) (by omega) (by omega) (by omega) (by omega) (by omega) (by omega) (wM_nil) (by omega) (by omega) (by omega) (by omega) (by omega)
                    · have _q : True := trivial
                      refine jx_vr (pc' := 109) (as := [.int (i32 (0))]) (st := []) rfl rfl rfl rfl ⟨rfl, rfl, Nat.le_of_ble_eq_true rfl⟩ rfl rfl (c_need (dd := d) (hd := by omega) (hW := hW858) (g := 0) (ln := ln) (e_ln := show G853 9 = ln from ((hF859.1 9 rfl).trans ((hF811.1 9 rfl).trans ((hF774.1 9 rfl).trans (e_ln))))) (le := le) (e_le := show A854 4 (ln).toNat = le from (congrFun ((hF859.2 4 rfl).trans (((congrFun eA844 4).trans (uA_ne (by decide))).trans ((hF811.2 4 rfl).trans (hF774.2 4 rfl)))) _).trans (e_le)) (at0 := at2_855) (e_at0 := show G853 10 = at2_855 from (e860)) (fk := fk2_857) (e_fk := show G853 16 = fk2_857 from (e862)) (tk0 := tk2_856) (e_tk0 := show G853 11 = tk2_856 from (e861))  (h_g := ⟨(by decide), (by decide)⟩)  (p_0 := by omega)) (fun o V' hq => ?_)
                      obtain ⟨G1071, A1072, at2_1073, tk2_1074, fk2_1075, rfl, rfl, hW1076, hF1077, e1078, e1079, e1080, p1081, p1082, q1083⟩ := hq
                      have hF1084 := Fr_tr hF866 hF1077 (Fr_sub (by decide)) (Fr_sub (by decide))
                      have hP1085 := Pf_f hP867 hF1077 (by decide)
                      have hS1086 := Fx_f hS868 hF1077 (by decide)
                      have hV1087 := Fx_f hV869 hF1077 (by decide)
                      have hK1088 := Fx_f hK870 hF1077 (by decide)
                      have ec1089 : ecn A1072 (G1071 31) = ec := (ecn_f (hF1077.2 15 rfl) (hF1077.1 31 rfl)).trans ec871
                      have bat2_1073 : (0 : Int) ≤ at2_1073 ∧ at2_1073 ≤ 3002 := e1078 ▸ hW1076.1 10
                      have ztk2_1074 := tz_b tk2_1074
                      have btk2_1074 : (0 : Int) ≤ tk2_1074 ∧ tk2_1074 ≤ 5 := e1079 ▸ hW1076.1 11
                      have bfk2_1075 : (0 : Int) ≤ fk2_1075 ∧ fk2_1075 ≤ 6 := e1080 ▸ hW1076.1 16
                      refine .inl ⟨rfl, ?_⟩
                      rcases q1083 with ⟨a1090, a1091, a1092, a1093⟩ | ⟨a1094, a1095, a1096, a1097⟩
                      · have _q : True := trivial
                        refine jx_ld (pc' := 110) (l' := L837) (st' := [.ref 66]) rfl (jl_aloadn gL837_0) ?_
                        refine jr_get (pc' := 113) (i := 47) (v := .ref 96) rfl rfl (by decide) rfl rfl ?_
                        refine jx_ld (pc' := 114) (l' := L837) (st' := [.ref 66, .ref 96]) rfl (jl_aloadn gL837_0) ?_
                        refine jr_get (pc' := 117) (i := 46) (v := .int (i32 (pc0))) rfl rfl (by decide) (rFv_eq (by decide) (show G1071 46 = pc0 from ((hF1077.1 46 rfl).trans ((hF859.1 46 rfl).trans ((hF811.1 46 rfl).trans ((hF774.1 46 rfl).trans (e_pc0))))))) rfl ?_
                        refine jx_ld (pc' := 118) (l' := L837) (st' := [.ref 66, .int (i32 (pc0)), .ref 96]) rfl (jl_aloadn gL837_0) ?_
                        refine jr_get (pc' := 121) (i := 19) (v := .int (i32 (sy2_806))) rfl rfl (by decide) (rFv_eq (by decide) (show G1071 19 = sy2_806 from ((hF1077.1 19 rfl).trans ((hF859.1 19 rfl).trans (e814))))) rfl ?_
                        refine jr_st (pc' := 122) (i := 29) (m := 25) (z := pc0) (y := sy2_806) rfl (by decide) rfl (by decide) (by omega) (by omega) rfl ?_
                        have hW1099 : Wk G1071 (uA A1072 29 (pc0).toNat (sy2_806)) := Wk_a hW1076 (show (0 : Int) ≤ sy2_806 by omega) (show sy2_806 ≤ (202 : Int) by omega)
                        have hF1100 := Fr_a (z := sy2_806) (k := 29) (n := (pc0).toNat) hF1084 (by decide)
                        obtain ⟨A1098, eA1098⟩ : ∃ q, q = uA A1072 29 (pc0).toNat (sy2_806) := ⟨_, rfl⟩
                        rw [← eA1098]
                        rw [← eA1098] at hW1099 hF1100
                        have q1101 : A1098 29 (pc0).toNat = sy2_806 := by rw [eA1098]; exact uA_eq
                        have hP1102 : Pf nd A A1098 := eA1098 ▸ Pf_n hP1085 rfl
                        have hS1103 : Fx sr (sy) A A1098 := eA1098 ▸ Fx_n hS1086 rfl
                        have hV1104 : Fx [14] (vi) A A1098 := eA1098 ▸ Fx_n hV1087 rfl
                        have hK1105 : Fx [29, 30, 31] (pc0) A A1098 := eA1098 ▸ Fx_a hK1088 (z := pc0) (by omega) (by omega)
                        have ec1106 : ecn A1098 (G1071 31) = ec := (ecn_e ((congrFun eA1098 15).trans (uA_ne (by decide)))).trans ec1089
                        refine jx_ar (pc' := 123) (st' := [.int (i32 (0))]) rfl rfl rfl rfl ?_
                        refine jx_ld (pc' := 124) (l' := jSto1 L837 2 (.int (i32 (0)))) (st' := []) rfl rfl ?_
                        obtain ⟨L1107, eL1107⟩ : ∃ q, q = jSto1 L837 2 (.int (i32 (0))) := ⟨_, rfl⟩
                        rw [← eL1107]
                        have gL1107_0 : jGet L1107 0 = some (.ref 66) := eL1107 ▸ jg_ne (by decide) gL837_0 rfl
                        have gL1107_1 : jGet L1107 1 = some (.int (i32 (sy))) := eL1107 ▸ jg_ne (by decide) gL837_1 rfl
                        have gL1107_2 : jGet L1107 2 = some (.int (i32 (0))) := eL1107 ▸ jg_eq
                        refine jx_ld (pc' := 125) (l' := L1107) (st' := [.ref 66]) rfl (jl_aloadn gL1107_0) ?_
                        refine jx_vr (pc' := 128) (as := []) (st := []) rfl rfl rfl rfl ⟨rfl, rfl, Nat.le_of_ble_eq_true rfl⟩ rfl rfl (c_bad (dd := d) (hd := by omega) (hW := hW1099)  (fk := fk2_1075) (e_fk := show G1071 16 = fk2_1075 from (e1080))    ) (fun o V' hq => ?_)
                        obtain ⟨r1108, rfl, rfl, b1109, q1110⟩ := hq
                        refine .inr ⟨_, rfl, ?_⟩
                        rcases q1110 with ⟨rfl, a1111⟩ | ⟨rfl, a1112⟩
                        · have _q : True := trivial
                          refine jx_if_ne (pc' := 131) (tg := 144) rfl rfl rfl (by decide) (by decide) (fun h1113 => ?_) (fun h1113 => ?_)
                          · have _q := h1113
                            refine jx_ar (pc' := 145) (st' := [.int (i32 (0))]) rfl rfl rfl rfl ?_
                            refine jx_ld (pc' := 146) (l' := jSto1 L1107 3 (.int (i32 (0)))) (st' := []) rfl rfl ?_
                            obtain ⟨L1114, eL1114⟩ : ∃ q, q = jSto1 L1107 3 (.int (i32 (0))) := ⟨_, rfl⟩
                            rw [← eL1114]
                            have gL1114_0 : jGet L1114 0 = some (.ref 66) := eL1114 ▸ jg_ne (by decide) gL1107_0 rfl
                            have gL1114_1 : jGet L1114 1 = some (.int (i32 (sy))) := eL1114 ▸ jg_ne (by decide) gL1107_1 rfl
                            have gL1114_2 : jGet L1114 2 = some (.int (i32 (0))) := eL1114 ▸ jg_ne (by decide) gL1107_2 rfl
                            have gL1114_3 : jGet L1114 3 = some (.int (i32 (0))) := eL1114 ▸ jg_eq
                            refine jx_ld (pc' := 147) (l' := L1114) (st' := [.ref 66]) rfl (jl_aloadn gL1114_0) ?_
                            refine jx_vr (pc' := 150) (as := []) (st := []) rfl rfl rfl rfl ⟨rfl, rfl, Nat.le_of_ble_eq_true rfl⟩ rfl rfl (c_bad (dd := d) (hd := by omega) (hW := hW1099)  (fk := fk2_1075) (e_fk := show G1071 16 = fk2_1075 from (e1080))    ) (fun o V' hq => ?_)
                            obtain ⟨r1115, rfl, rfl, b1116, q1117⟩ := hq
                            refine .inr ⟨_, rfl, ?_⟩
                            rcases q1117 with ⟨rfl, a1118⟩ | ⟨rfl, a1119⟩
                            · have _q : True := trivial
                              refine jx_if_ne (pc' := 153) (tg := 212) rfl rfl rfl (by decide) (by decide) (fun h1120 => ?_) (fun h1120 => ?_)
                              · have _q := h1120
                                exact c_readProc_w_at_212p (X := X) (d := d) (Vs := Vs) (sb := sb) (pb := pb) (hvb := hvb) (c0 := c0) (c1 := c1) (G := G) (A := A) (T := T) (ln := ln) (li := li) (at0 := at0) (fk := fk) (nd := nd) (sy := sy) (na := na) (vi := vi) (le := le) (op0 := op0) (tk0 := tk0) (pc0 := pc0) (ec := ec) (hd := hd) (hW := hW) (e_ln := e_ln) (e_li := e_li) (e_at0 := e_at0) (e_fk := e_fk) (e_nd := e_nd) (e_sy := e_sy) (e_na := e_na) (e_vi := e_vi) (e_le := e_le) (e_op0 := e_op0) (e_tk0 := e_tk0) (e_pc0 := e_pc0) (e_ec := e_ec) (i_LT := i_LT) (i_SV := i_SV) (i_PQ := i_PQ) (p_0 := p_0) (p_1 := p_1) (p_2 := p_2) (p_3 := p_3) (p_4 := p_4) (p_5 := p_5) (p_6 := p_6) (p_7 := p_7) (p_8 := p_8) (p_9 := p_9) L1114 G1071 A1098 (sy) (0) (at2_1073) (fk2_1075) (sy2_806) (na2_807) gL1114_0 gL1114_1 gL1114_2 hW1099 hF1100 hP1102 hS1103 hV1104 hK1105 ((e1078)) ((e1080)) (((hF1077.1 19 rfl).trans ((hF859.1 19 rfl).trans (e814)))) (((hF1077.1 28 rfl).trans ((hF859.1 28 rfl).trans (e815)))) (((hF1077.1 9 rfl).trans ((hF859.1 9 rfl).trans ((hF811.1 9 rfl).trans ((hF774.1 9 rfl).trans (e_ln)))))) (((hF1077.1 29 rfl).trans ((hF859.1 29 rfl).trans ((hF811.1 29 rfl).trans ((hF774.1 29 rfl).trans (e_vi)))))) (((hF1077.1 46 rfl).trans ((hF859.1 46 rfl).trans ((hF811.1 46 rfl).trans ((hF774.1 46 rfl).trans (e_pc0)))))) (((hF1077.1 31 rfl).trans ((hF859.1 31 rfl).trans ((hF811.1 31 rfl).trans ((hF774.1 31 rfl).trans (e_nd)))))) (ec1106) (by omega) (by omega) (by omega) (by omega) (by omega) (by omega) (by omega) (by omega) (by omega)
                              · have _q := h1120
                                exact absurd h1120 (by omega)
                            · have _q : True := trivial
                              exfalso
                              omega
                          · have _q := h1113
                            exact absurd h1113 (by omega)
                        · have _q : True := trivial
                          exfalso
                          omega
                      · have _q : True := trivial
                        exfalso
                        omega
                · have _q := h843
                  exact absurd h843 (by omega)
            · have _q : True := trivial
              refine jx_ld (pc' := 76) (l' := jSto1 [(0, .ref 66)] 1 (.int (i32 (0)))) (st' := []) rfl rfl ?_
              obtain ⟨L1121, eL1121⟩ : ∃ q, q = jSto1 [(0, .ref 66)] 1 (.int (i32 (0))) := ⟨_, rfl⟩
              rw [← eL1121]
              have gL1121_0 : jGet L1121 0 = some (.ref 66) := eL1121 ▸ jg_ne (by decide) (rfl : jGet [(0, .ref 66)] 0 = some (.ref 66)) rfl
              have gL1121_1 : jGet L1121 1 = some (.int (i32 (0))) := eL1121 ▸ jg_eq
              refine jx_ld (pc' := 77) (l' := L1121) (st' := [.ref 66]) rfl (jl_aloadn gL1121_0) ?_
              refine jx_vr (pc' := 80) (as := []) (st := []) rfl rfl rfl rfl ⟨rfl, rfl, Nat.le_of_ble_eq_true rfl⟩ rfl rfl (c_bad (dd := d) (hd := by omega) (hW := hW810)  (fk := fk2_808) (e_fk := show G803 16 = fk2_808 from (e816))    ) (fun o V' hq => ?_)
              obtain ⟨r1122, rfl, rfl, b1123, q1124⟩ := hq
              refine .inr ⟨_, rfl, ?_⟩
              rcases q1124 with ⟨rfl, a1125⟩ | ⟨rfl, a1126⟩
              · have _q : True := trivial
                refine jx_if_eq (pc' := 83) (tg := 84) rfl rfl rfl (by decide) (by decide) (fun h1127 => ?_) (fun h1127 => ?_)
                · have _q := h1127
                  exact absurd h1127 (by omega)
                · have _q := h1127
                  refine jx_rt (v := none) rfl rfl rfl rfl rfl rfl ?_
                  exact ⟨_, _, ln, at2_771, fk2_808, nd, sy2_806, na2_807, vi, A 3 (ln).toNat, pc0, ec, rfl, rfl, hW810, hF819, hP820, hS821, hV822, hK823, ((hF811.1 9 rfl).trans ((hF774.1 9 rfl).trans (e_ln))), ((hF811.1 10 rfl).trans (e775)), (e816), ((hF811.1 31 rfl).trans ((hF774.1 31 rfl).trans (e_nd))), (e814), (e815), ((hF811.1 29 rfl).trans ((hF774.1 29 rfl).trans (e_vi))), (congrFun ((hF811.2 3 rfl).trans (hF774.2 3 rfl)) _), ((hF811.1 46 rfl).trans ((hF774.1 46 rfl).trans (e_pc0))), ec826, by omega, by omega, by omega, by omega, by first | exact Or.inl (by omega)⟩
              · have _q : True := trivial
                exfalso
                omega
          · have _q := h802
            refine jx_ld (pc' := 59) (l' := [(0, .ref 66)]) (st' := [.ref 66]) rfl (jl_aloadn rfl) ?_
            refine jx_ar (pc' := 61) (st' := [.int (i32 (6)), .ref 66]) rfl rfl rfl rfl ?_
            refine jx_ld (pc' := 62) (l' := [(0, .ref 66)]) (st' := [.ref 66, .int (i32 (6)), .ref 66]) rfl (jl_aloadn rfl) ?_
            have b1128 : (-3000 : Int) ≤ G769 12 ∧ G769 12 ≤ 3002 := hW773.1 12
            refine jr_get (pc' := 65) (i := 12) (v := .int (i32 (G769 12))) rfl rfl (by decide) rfl rfl ?_
            refine jx_vr (pc' := 68) (as := [.int (i32 (6)), .int (i32 (G769 12))]) (st := []) rfl rfl rfl rfl ⟨rfl, rfl, Nat.le_of_ble_eq_true rfl⟩ rfl rfl (c_fail (dd := d) (hd := by omega) (hW := hW773) (kind := 6) (place := G769 12) (fk := fk) (e_fk := show G769 16 = fk from ((hF774.1 16 rfl).trans (e_fk)))  (h_kind := ⟨(by decide), (by decide)⟩) (h_place := ⟨(Int.le_trans (by decide : (-2147483648 : Int) ≤ -3000) b1128.1), (Int.le_trans b1128.2 (by decide : (3002 : Int) ≤ 2147483647))⟩)  (p_0 := by omega) (p_1 := by omega)) (fun o V' hq => ?_)
            obtain ⟨G1129, A1130, fk2_1131, rfl, rfl, hW1132, hF1133, e1134, p1135, -⟩ := hq
            have hF1137 := Fr_tr hF781 hF1133 (Fr_sub (by decide)) (Fr_sub (by decide))
            have hP1138 := Pf_f hP782 hF1133 (by decide)
            have hS1139 := Fx_f hS783 hF1133 (by decide)
            have hV1140 := Fx_f hV784 hF1133 (by decide)
            have hK1141 := Fx_f hK785 hF1133 (by decide)
            have sf1142 : wQ A1130 (pc0).toNat (nd) (sy) := (show A1130 = A770 from funext (fun k => hF1133.2 k rfl)) ▸ sf786
            have sf1143 : VT (Vs) A1130 (sy) := (show A1130 = A770 from funext (fun k => hF1133.2 k rfl)) ▸ sf787
            have ec1144 : ecn A1130 (G1129 31) = ec := (ecn_f (hF1133.2 15 rfl) (hF1133.1 31 rfl)).trans ec788
            have bfk2_1131 : (0 : Int) ≤ fk2_1131 ∧ fk2_1131 ≤ 6 := e1134 ▸ hW1132.1 16
            refine .inl ⟨rfl, ?_⟩
            refine jx_ld (pc' := 69) (l' := [(0, .ref 66)]) (st' := [.ref 66]) rfl (jl_aloadn rfl) ?_
            refine jx_ar (pc' := 71) (st' := [.int (i32 (14)), .ref 66]) rfl rfl rfl rfl ?_
            refine jx_ar (pc' := 72) (st' := [.int (i32 (0)), .int (i32 (14)), .ref 66]) rfl rfl rfl rfl ?_
            refine jx_vr (pc' := 75) (as := [.int (i32 (14)), .int (i32 (0))]) (st := []) rfl rfl rfl rfl ⟨rfl, rfl, Nat.le_of_ble_eq_true rfl⟩ rfl rfl (c_newName (dd := d) (hd := by omega) (hW := hW1132) (kind := 14) (many := 0) (sy := sy) (e_sy := show G1129 19 = sy from ((hF1133.1 19 rfl).trans ((hF774.1 19 rfl).trans (e_sy)))) (na := na) (e_na := show G1129 28 = na from ((hF1133.1 28 rfl).trans ((hF774.1 28 rfl).trans (e_na)))) (fk := fk2_1131) (e_fk := show G1129 16 = fk2_1131 from (e1134))  (h_kind := ⟨(by decide), (by decide)⟩) (h_many := ⟨(by decide), (by decide)⟩)  (p_0 := by omega) (p_1 := by omega)) (fun o V' hq => ?_)
            obtain ⟨G1145, A1146, r1147, sy2_1148, na2_1149, fk2_1150, yk2_1151, rfl, rfl, hW1152, hF1153, hQ1154, b1155, e1156, e1157, e1158, e1159, q1160⟩ := hq
            have hF1161 := Fr_tr hF1137 hF1153 (Fr_sub (by decide)) (Fr_sub (by decide))
            have hP1162 := Pf_f hP1138 hF1153 (by decide)
            have hS1163 := Fx_tr hS1139 hQ1154 (by omega)
            have hV1164 := Fx_f hV1140 hF1153 (by decide)
            have hK1165 := Fx_f hK1141 hF1153 (by decide)
            have sf1166 : wQ A1146 (pc0).toNat (nd) (sy) := wQ_fx (Pf_f Pf_rf hF1153 (by decide)) (Fx_su hQ1154 (by omega)) (Fx_su (Fx_f (w := pc0) Fx_rf hF1153 (by decide)) (by omega)) sf1142
            have sf1167 : VT (Vs) A1146 (sy) := VT_fx hQ1154 (by omega) sf1143
            have ec1168 : ecn A1146 (G1145 31) = ec := (ecn_f (hF1153.2 15 rfl) (hF1153.1 31 rfl)).trans ec1144
            have bsy2_1148 : (0 : Int) ≤ sy2_1148 ∧ sy2_1148 ≤ 202 := e1156 ▸ hW1152.1 19
            have bna2_1149 : (0 : Int) ≤ na2_1149 ∧ na2_1149 ≤ 200 := e1157 ▸ hW1152.1 28
            have bfk2_1150 : (0 : Int) ≤ fk2_1150 ∧ fk2_1150 ≤ 6 := e1158 ▸ hW1152.1 16
            have byk2_1151 : (0 : Int) ≤ yk2_1151 ∧ yk2_1151 ≤ 14 := e1159 ▸ hW1152.2 7 _
            refine .inr ⟨_, rfl, ?_⟩
            rcases q1160 with ⟨a1175, a1169, a1170, a1171, a1172, a1173, a1174⟩ | ⟨rfl, a1176, a1177, a1178⟩
            · have _q : True := trivial
              rw [a1175]
              exfalso
              omega
            · have _q : True := trivial
              refine jx_ld (pc' := 76) (l' := jSto1 [(0, .ref 66)] 1 (.int (i32 (0)))) (st' := []) rfl rfl ?_
              obtain ⟨L1179, eL1179⟩ : ∃ q, q = jSto1 [(0, .ref 66)] 1 (.int (i32 (0))) := ⟨_, rfl⟩
              rw [← eL1179]
              have gL1179_0 : jGet L1179 0 = some (.ref 66) := eL1179 ▸ jg_ne (by decide) (rfl : jGet [(0, .ref 66)] 0 = some (.ref 66)) rfl
              have gL1179_1 : jGet L1179 1 = some (.int (i32 (0))) := eL1179 ▸ jg_eq
              refine jx_ld (pc' := 77) (l' := L1179) (st' := [.ref 66]) rfl (jl_aloadn gL1179_0) ?_
              refine jx_vr (pc' := 80) (as := []) (st := []) rfl rfl rfl rfl ⟨rfl, rfl, Nat.le_of_ble_eq_true rfl⟩ rfl rfl (c_bad (dd := d) (hd := by omega) (hW := hW1152)  (fk := fk2_1150) (e_fk := show G1145 16 = fk2_1150 from (e1158))    ) (fun o V' hq => ?_)
              obtain ⟨r1180, rfl, rfl, b1181, q1182⟩ := hq
              refine .inr ⟨_, rfl, ?_⟩
              rcases q1182 with ⟨rfl, a1183⟩ | ⟨rfl, a1184⟩
              · have _q : True := trivial
                refine jx_if_eq (pc' := 83) (tg := 84) rfl rfl rfl (by decide) (by decide) (fun h1185 => ?_) (fun h1185 => ?_)
                · have _q := h1185
                  exact absurd h1185 (by omega)
                · have _q := h1185
                  refine jx_rt (v := none) rfl rfl rfl rfl rfl rfl ?_
                  exact ⟨_, _, ln, at2_771, fk2_1150, nd, sy2_1148, na2_1149, vi, A 3 (ln).toNat, pc0, ec, rfl, rfl, hW1152, hF1161, hP1162, hS1163, hV1164, hK1165, ((hF1153.1 9 rfl).trans ((hF1133.1 9 rfl).trans ((hF774.1 9 rfl).trans (e_ln)))), ((hF1153.1 10 rfl).trans ((hF1133.1 10 rfl).trans (e775))), (e1158), ((hF1153.1 31 rfl).trans ((hF1133.1 31 rfl).trans ((hF774.1 31 rfl).trans (e_nd)))), (e1156), (e1157), ((hF1153.1 29 rfl).trans ((hF1133.1 29 rfl).trans ((hF774.1 29 rfl).trans (e_vi)))), (congrFun ((hF1153.2 3 rfl).trans ((hF1133.2 3 rfl).trans (hF774.2 3 rfl))) _), ((hF1153.1 46 rfl).trans ((hF1133.1 46 rfl).trans ((hF774.1 46 rfl).trans (e_pc0)))), ec1168, by omega, by omega, by omega, by omega, by first | exact Or.inl (by omega)⟩
              · have _q : True := trivial
                exfalso
                omega
    · have _q := h795
      refine jx_ld (pc' := 34) (l' := [(0, .ref 66)]) (st' := [.ref 66]) rfl (jl_aloadn rfl) ?_
      refine jx_ar (pc' := 35) (st' := [.int (i32 (2)), .ref 66]) rfl rfl rfl rfl ?_
      refine jx_ld (pc' := 36) (l' := [(0, .ref 66)]) (st' := [.ref 66, .int (i32 (2)), .ref 66]) rfl (jl_aloadn rfl) ?_
      have b1186 : (-3000 : Int) ≤ G769 12 ∧ G769 12 ≤ 3002 := hW773.1 12
      refine jr_get (pc' := 39) (i := 12) (v := .int (i32 (G769 12))) rfl rfl (by decide) rfl rfl ?_
      refine jx_vr (pc' := 42) (as := [.int (i32 (2)), .int (i32 (G769 12))]) (st := []) rfl rfl rfl rfl ⟨rfl, rfl, Nat.le_of_ble_eq_true rfl⟩ rfl rfl (c_fail (dd := d) (hd := by omega) (hW := hW773) (kind := 2) (place := G769 12) (fk := fk) (e_fk := show G769 16 = fk from ((hF774.1 16 rfl).trans (e_fk)))  (h_kind := ⟨(by decide), (by decide)⟩) (h_place := ⟨(Int.le_trans (by decide : (-2147483648 : Int) ≤ -3000) b1186.1), (Int.le_trans b1186.2 (by decide : (3002 : Int) ≤ 2147483647))⟩)  (p_0 := by omega) (p_1 := by omega)) (fun o V' hq => ?_)
      obtain ⟨G1187, A1188, fk2_1189, rfl, rfl, hW1190, hF1191, e1192, p1193, -⟩ := hq
      have hF1195 := Fr_tr hF781 hF1191 (Fr_sub (by decide)) (Fr_sub (by decide))
      have hP1196 := Pf_f hP782 hF1191 (by decide)
      have hS1197 := Fx_f hS783 hF1191 (by decide)
      have hV1198 := Fx_f hV784 hF1191 (by decide)
      have hK1199 := Fx_f hK785 hF1191 (by decide)
      have sf1200 : wQ A1188 (pc0).toNat (nd) (sy) := (show A1188 = A770 from funext (fun k => hF1191.2 k rfl)) ▸ sf786
      have sf1201 : VT (Vs) A1188 (sy) := (show A1188 = A770 from funext (fun k => hF1191.2 k rfl)) ▸ sf787
      have ec1202 : ecn A1188 (G1187 31) = ec := (ecn_f (hF1191.2 15 rfl) (hF1191.1 31 rfl)).trans ec788
      have bfk2_1189 : (0 : Int) ≤ fk2_1189 ∧ fk2_1189 ≤ 6 := e1192 ▸ hW1190.1 16
      refine .inl ⟨rfl, ?_⟩
      refine jx_ld (pc' := 43) (l' := [(0, .ref 66)]) (st' := [.ref 66]) rfl (jl_aloadn rfl) ?_
      refine jx_vr (pc' := 46) (as := []) (st := []) rfl rfl rfl rfl ⟨rfl, rfl, Nat.le_of_ble_eq_true rfl⟩ rfl rfl (c_bad (dd := d) (hd := by omega) (hW := hW1190)  (fk := fk2_1189) (e_fk := show G1187 16 = fk2_1189 from (e1192))    ) (fun o V' hq => ?_)
      obtain ⟨r1203, rfl, rfl, b1204, q1205⟩ := hq
      refine .inr ⟨_, rfl, ?_⟩
      rcases q1205 with ⟨rfl, a1206⟩ | ⟨rfl, a1207⟩
      · have _q : True := trivial
        refine jx_if_ne (pc' := 49) (tg := 68) rfl rfl rfl (by decide) (by decide) (fun h1208 => ?_) (fun h1208 => ?_)
        · have _q := h1208
          refine jx_ld (pc' := 69) (l' := [(0, .ref 66)]) (st' := [.ref 66]) rfl (jl_aloadn rfl) ?_
          refine jx_ar (pc' := 71) (st' := [.int (i32 (14)), .ref 66]) rfl rfl rfl rfl ?_
          refine jx_ar (pc' := 72) (st' := [.int (i32 (0)), .int (i32 (14)), .ref 66]) rfl rfl rfl rfl ?_
          refine jx_vr (pc' := 75) (as := [.int (i32 (14)), .int (i32 (0))]) (st := []) rfl rfl rfl rfl ⟨rfl, rfl, Nat.le_of_ble_eq_true rfl⟩ rfl rfl (c_newName (dd := d) (hd := by omega) (hW := hW1190) (kind := 14) (many := 0) (sy := sy) (e_sy := show G1187 19 = sy from ((hF1191.1 19 rfl).trans ((hF774.1 19 rfl).trans (e_sy)))) (na := na) (e_na := show G1187 28 = na from ((hF1191.1 28 rfl).trans ((hF774.1 28 rfl).trans (e_na)))) (fk := fk2_1189) (e_fk := show G1187 16 = fk2_1189 from (e1192))  (h_kind := ⟨(by decide), (by decide)⟩) (h_many := ⟨(by decide), (by decide)⟩)  (p_0 := by omega) (p_1 := by omega)) (fun o V' hq => ?_)
          obtain ⟨G1209, A1210, r1211, sy2_1212, na2_1213, fk2_1214, yk2_1215, rfl, rfl, hW1216, hF1217, hQ1218, b1219, e1220, e1221, e1222, e1223, q1224⟩ := hq
          have hF1225 := Fr_tr hF1195 hF1217 (Fr_sub (by decide)) (Fr_sub (by decide))
          have hP1226 := Pf_f hP1196 hF1217 (by decide)
          have hS1227 := Fx_tr hS1197 hQ1218 (by omega)
          have hV1228 := Fx_f hV1198 hF1217 (by decide)
          have hK1229 := Fx_f hK1199 hF1217 (by decide)
          have sf1230 : wQ A1210 (pc0).toNat (nd) (sy) := wQ_fx (Pf_f Pf_rf hF1217 (by decide)) (Fx_su hQ1218 (by omega)) (Fx_su (Fx_f (w := pc0) Fx_rf hF1217 (by decide)) (by omega)) sf1200
          have sf1231 : VT (Vs) A1210 (sy) := VT_fx hQ1218 (by omega) sf1201
          have ec1232 : ecn A1210 (G1209 31) = ec := (ecn_f (hF1217.2 15 rfl) (hF1217.1 31 rfl)).trans ec1202
          have bsy2_1212 : (0 : Int) ≤ sy2_1212 ∧ sy2_1212 ≤ 202 := e1220 ▸ hW1216.1 19
          have bna2_1213 : (0 : Int) ≤ na2_1213 ∧ na2_1213 ≤ 200 := e1221 ▸ hW1216.1 28
          have bfk2_1214 : (0 : Int) ≤ fk2_1214 ∧ fk2_1214 ≤ 6 := e1222 ▸ hW1216.1 16
          have byk2_1215 : (0 : Int) ≤ yk2_1215 ∧ yk2_1215 ≤ 14 := e1223 ▸ hW1216.2 7 _
          refine .inr ⟨_, rfl, ?_⟩
          rcases q1224 with ⟨a1239, a1233, a1234, a1235, a1236, a1237, a1238⟩ | ⟨rfl, a1240, a1241, a1242⟩
          · have _q : True := trivial
            rw [a1239]
            exfalso
            omega
          · have _q : True := trivial
            refine jx_ld (pc' := 76) (l' := jSto1 [(0, .ref 66)] 1 (.int (i32 (0)))) (st' := []) rfl rfl ?_
            obtain ⟨L1243, eL1243⟩ : ∃ q, q = jSto1 [(0, .ref 66)] 1 (.int (i32 (0))) := ⟨_, rfl⟩
            rw [← eL1243]
            have gL1243_0 : jGet L1243 0 = some (.ref 66) := eL1243 ▸ jg_ne (by decide) (rfl : jGet [(0, .ref 66)] 0 = some (.ref 66)) rfl
            have gL1243_1 : jGet L1243 1 = some (.int (i32 (0))) := eL1243 ▸ jg_eq
            refine jx_ld (pc' := 77) (l' := L1243) (st' := [.ref 66]) rfl (jl_aloadn gL1243_0) ?_
            refine jx_vr (pc' := 80) (as := []) (st := []) rfl rfl rfl rfl ⟨rfl, rfl, Nat.le_of_ble_eq_true rfl⟩ rfl rfl (c_bad (dd := d) (hd := by omega) (hW := hW1216)  (fk := fk2_1214) (e_fk := show G1209 16 = fk2_1214 from (e1222))    ) (fun o V' hq => ?_)
            obtain ⟨r1244, rfl, rfl, b1245, q1246⟩ := hq
            refine .inr ⟨_, rfl, ?_⟩
            rcases q1246 with ⟨rfl, a1247⟩ | ⟨rfl, a1248⟩
            · have _q : True := trivial
              refine jx_if_eq (pc' := 83) (tg := 84) rfl rfl rfl (by decide) (by decide) (fun h1249 => ?_) (fun h1249 => ?_)
              · have _q := h1249
                exact absurd h1249 (by omega)
              · have _q := h1249
                refine jx_rt (v := none) rfl rfl rfl rfl rfl rfl ?_
                exact ⟨_, _, ln, at2_771, fk2_1214, nd, sy2_1212, na2_1213, vi, A 3 (ln).toNat, pc0, ec, rfl, rfl, hW1216, hF1225, hP1226, hS1227, hV1228, hK1229, ((hF1217.1 9 rfl).trans ((hF1191.1 9 rfl).trans ((hF774.1 9 rfl).trans (e_ln)))), ((hF1217.1 10 rfl).trans ((hF1191.1 10 rfl).trans (e775))), (e1222), ((hF1217.1 31 rfl).trans ((hF1191.1 31 rfl).trans ((hF774.1 31 rfl).trans (e_nd)))), (e1220), (e1221), ((hF1217.1 29 rfl).trans ((hF1191.1 29 rfl).trans ((hF774.1 29 rfl).trans (e_vi)))), (congrFun ((hF1217.2 3 rfl).trans ((hF1191.2 3 rfl).trans (hF774.2 3 rfl))) _), ((hF1217.1 46 rfl).trans ((hF1191.1 46 rfl).trans ((hF774.1 46 rfl).trans (e_pc0)))), ec1232, by omega, by omega, by omega, by omega, by first | exact Or.inl (by omega)⟩
            · have _q : True := trivial
              exfalso
              omega
        · have _q := h1208
          exact absurd h1208 (by omega)
      · have _q : True := trivial
        exfalso
        omega
  · have _q := h790
    refine jx_ld (pc' := 13) (l' := [(0, .ref 66)]) (st' := [.ref 66]) rfl (jl_aloadn rfl) ?_
    refine jx_ar (pc' := 14) (st' := [.int (i32 (1)), .ref 66]) rfl rfl rfl rfl ?_
    refine jx_ld (pc' := 15) (l' := [(0, .ref 66)]) (st' := [.ref 66, .int (i32 (1)), .ref 66]) rfl (jl_aloadn rfl) ?_
    have b1250 : (-3000 : Int) ≤ G769 12 ∧ G769 12 ≤ 3002 := hW773.1 12
    refine jr_get (pc' := 18) (i := 12) (v := .int (i32 (G769 12))) rfl rfl (by decide) rfl rfl ?_
    refine jx_vr (pc' := 21) (as := [.int (i32 (1)), .int (i32 (G769 12))]) (st := []) rfl rfl rfl rfl ⟨rfl, rfl, Nat.le_of_ble_eq_true rfl⟩ rfl rfl (c_fail (dd := d) (hd := by omega) (hW := hW773) (kind := 1) (place := G769 12) (fk := fk) (e_fk := show G769 16 = fk from ((hF774.1 16 rfl).trans (e_fk)))  (h_kind := ⟨(by decide), (by decide)⟩) (h_place := ⟨(Int.le_trans (by decide : (-2147483648 : Int) ≤ -3000) b1250.1), (Int.le_trans b1250.2 (by decide : (3002 : Int) ≤ 2147483647))⟩)  (p_0 := by omega) (p_1 := by omega)) (fun o V' hq => ?_)
    obtain ⟨G1251, A1252, fk2_1253, rfl, rfl, hW1254, hF1255, e1256, p1257, -⟩ := hq
    have hF1259 := Fr_tr hF781 hF1255 (Fr_sub (by decide)) (Fr_sub (by decide))
    have hP1260 := Pf_f hP782 hF1255 (by decide)
    have hS1261 := Fx_f hS783 hF1255 (by decide)
    have hV1262 := Fx_f hV784 hF1255 (by decide)
    have hK1263 := Fx_f hK785 hF1255 (by decide)
    have sf1264 : wQ A1252 (pc0).toNat (nd) (sy) := (show A1252 = A770 from funext (fun k => hF1255.2 k rfl)) ▸ sf786
    have sf1265 : VT (Vs) A1252 (sy) := (show A1252 = A770 from funext (fun k => hF1255.2 k rfl)) ▸ sf787
    have ec1266 : ecn A1252 (G1251 31) = ec := (ecn_f (hF1255.2 15 rfl) (hF1255.1 31 rfl)).trans ec788
    have bfk2_1253 : (0 : Int) ≤ fk2_1253 ∧ fk2_1253 ≤ 6 := e1256 ▸ hW1254.1 16
    refine .inl ⟨rfl, ?_⟩
    refine jx_rt (v := none) rfl rfl rfl rfl rfl rfl ?_
    exact ⟨_, _, ln, at2_771, fk2_1253, nd, sy, na, vi, A 3 (ln).toNat, pc0, ec, rfl, rfl, hW1254, hF1259, hP1260, hS1261, hV1262, hK1263, ((hF1255.1 9 rfl).trans ((hF774.1 9 rfl).trans (e_ln))), ((hF1255.1 10 rfl).trans (e775)), (e1256), ((hF1255.1 31 rfl).trans ((hF774.1 31 rfl).trans (e_nd))), ((hF1255.1 19 rfl).trans ((hF774.1 19 rfl).trans (e_sy))), ((hF1255.1 28 rfl).trans ((hF774.1 28 rfl).trans (e_na))), ((hF1255.1 29 rfl).trans ((hF774.1 29 rfl).trans (e_vi))), (congrFun ((hF1255.2 3 rfl).trans (hF774.2 3 rfl)) _), ((hF1255.1 46 rfl).trans ((hF774.1 46 rfl).trans (e_pc0))), ec1266, by omega, by omega, by omega, by omega, by first | exact Or.inl (by omega)⟩
