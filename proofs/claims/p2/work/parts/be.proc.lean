set_option maxRecDepth 20000 in
set_option maxHeartbeats 4000000 in
theorem c_readProc_w_at_327p {X : jX} {d : Nat} {Vs : Nat → Prop} {sb pb : Int} (hvb : VB Vs sb) {c0 c1 : jC} {G : Nat → Int} {A : Nat → Nat → Int} {T : jH} {ln li at0 fk nd sy na vi le op0 tk0 pc0 ec : Int} (hd : 8 * 18 + 81 ≤ d + 1) (hW : Wk G A) (e_ln : G 9 = ln) (e_li : G 3 = li) (e_at0 : G 10 = at0) (e_fk : G 16 = fk) (e_nd : G 31 = nd) (e_sy : G 19 = sy) (e_na : G 28 = na) (e_vi : G 29 = vi) (e_le : A 4 (ln).toNat = le) (e_op0 : G 15 = op0) (e_tk0 : G 11 = tk0) (e_pc0 : G 46 = pc0) (e_ec : ecn A (G 31) = ec) (i_LT : LT G A) (i_SV : SV Vs sb G A) (i_PQ : PQ Vs sb pb G A) (p_0 : fk = 0) (p_1 : ln < li) (p_2 : at0 ≤ le) (p_3 : nd ≤ 2 * at0 - tz tk0 + 30) (p_4 : sy ≤ na + 2) (p_5 : vi ≤ sy) (p_6 : sb ≤ sy) (p_7 : pb = pc0) (p_8 : wQ A (pc0).toNat (nd) (sy)) (p_9 : VT (Vs) A (sy)) : ∀ (L : jL) (Gx : Nat → Int) (Ax : Nat → Nat → Int) (p ln1 fk1 sy1 na1 ec1 : Int), jGet L 0 = some (.ref 66) → jGet L 1 = some (.int (i32 p)) → Wk Gx Ax → Fr [9, 10, 11, 12, 13, 14, 15, 16, 17, 18, 19, 28, 29, 31, 46] [6, 7, 8, 9, 10, 11, 12, 14, 15, 16, 17, 18, 19, 20, 21, 22, 23, 24, 28, 29, 30, 31] G A Gx Ax → Pf nd A Ax → Fx sr (sy) A Ax → Fx [14] (vi) A Ax → Fx [29, 30, 31] (pc0) A Ax → Gx 9 = ln1 → Gx 16 = fk1 → Gx 19 = sy1 → Gx 28 = na1 → ecn Ax (Gx 31) = ec1 → Gx 29 = vi → Gx 46 = pc0 → ((-2147483648 : Int) ≤ p ∧ p ≤ 2147483647) → (1 ≤ fk1) → (ln ≤ ln1) → (ln1 ≤ li) → (sy + 1 ≤ sy1) → (sy1 ≤ na1 + 2) → (p = sy) → (pc0 ≤ 23) → wj X d jm308 (327, L, [], rV c0 c1 Gx Ax T) (fun o V' => ∃ (G' : Nat → Int) (A' : Nat → Nat → Int) (ln2 : Int) (at2 : Int) (fk2 : Int) (nd2 : Int) (sy2 : Int) (na2 : Int) (vi2 : Int) (lf2 : Int) (pc2 : Int) (ec2 : Int), V' = rV c0 c1 G' A' T ∧ o = .inl none ∧ Wk G' A' ∧ Fr [9, 10, 11, 12, 13, 14, 15, 16, 17, 18, 19, 28, 29, 31, 46] [6, 7, 8, 9, 10, 11, 12, 14, 15, 16, 17, 18, 19, 20, 21, 22, 23, 24, 28, 29, 30, 31] G A G' A' ∧ Pf nd A A' ∧ Fx sr (sy) A A' ∧ Fx [14] (vi) A A' ∧ Fx [29, 30, 31] (pc0) A A' ∧ G' 9 = ln2 ∧ G' 10 = at2 ∧ G' 16 = fk2 ∧ G' 31 = nd2 ∧ G' 19 = sy2 ∧ G' 28 = na2 ∧ G' 29 = vi2 ∧ A' 3 (ln2).toNat = lf2 ∧ G' 46 = pc2 ∧ ecn A' (G' 31) = ec2 ∧ (sy2 ≤ na2 + 2) ∧ (vi2 ≤ sy2) ∧ (ln ≤ ln2) ∧ (ln2 ≤ li) ∧ (((1 ≤ fk2)) ∨ ((fk2 = 0) ∧ (ln < ln2) ∧ (at0 ≤ at2) ∧ (pc2 = pc0 + 1) ∧ (nd2 - nd ≤ 2 * at2 - (2 * at0 - tz tk0)) ∧ (at2 < lf2 ∨ li ≤ ln2) ∧ (vi2 = vi + 1) ∧ (sy < sy2) ∧ (wQ A' (pc2).toNat (nd2) (sy2)) ∧ (SW (Vu Vs sy) (sy2) (vi2) A') ∧ (PQ (Vu Vs sy) (sy2) (pc2) (fun _ => 0) A') ∧ (VT (Vu Vs sy) A' (sy2)) ∧ (nd2 - nd + 5 * (ec2 - ec) ≤ 2 * at2 - (2 * at0 - tz tk0))))) := by
  have hF0 : Fr [9, 10, 11, 12, 13, 14, 15, 16, 17, 18, 19, 28, 29, 31, 46] [6, 7, 8, 9, 10, 11, 12, 14, 15, 16, 17, 18, 19, 20, 21, 22, 23, 24, 28, 29, 30, 31] G A G A := Fr_rf
  have hP0 : Pf nd A A := Pf_rf
  have hS0 : Fx sr (sy) A A := Fx_rf
  have hV0 : Fx [14] (vi) A A := Fx_rf
  have hK0 : Fx [29, 30, 31] (pc0) A A := Fx_rf
  have b_ln : (0 : Int) ≤ ln ∧ ln ≤ 3000 := e_ln ▸ hW.1 9
  have b_li : (0 : Int) ≤ li ∧ li ≤ 3000 := e_li ▸ hW.1 3
  have b_at0 : (0 : Int) ≤ at0 ∧ at0 ≤ 3002 := e_at0 ▸ hW.1 10
  have b_fk : (0 : Int) ≤ fk ∧ fk ≤ 6 := e_fk ▸ hW.1 16
  have b_nd : (0 : Int) ≤ nd ∧ nd ≤ 6999 := e_nd ▸ hW.1 31
  have b_sy : (0 : Int) ≤ sy ∧ sy ≤ 202 := e_sy ▸ hW.1 19
  have b_na : (0 : Int) ≤ na ∧ na ≤ 200 := e_na ▸ hW.1 28
  have b_vi : (0 : Int) ≤ vi ∧ vi ≤ 202 := e_vi ▸ hW.1 29
  have b_le : (0 : Int) ≤ le ∧ le ≤ 3000 := e_le ▸ hW.2 4 _
  have b_op0 : (-2147483648 : Int) ≤ op0 ∧ op0 ≤ 2147483647 := e_op0 ▸ hW.1 15
  have z_tk0 := tz_f tk0
  have b_tk0 : (0 : Int) ≤ tk0 ∧ tk0 ≤ 5 := e_tk0 ▸ hW.1 11
  have b_pc0 : (0 : Int) ≤ pc0 ∧ pc0 ≤ 24 := e_pc0 ▸ hW.1 46
  intro L Gx Ax p ln1 fk1 sy1 na1 ec1 gL_0 gL_1 hWx hFx hPx hSx hVx hKx ex_ln1 ex_fk1 ex_sy1 ex_na1 ex_ec1 fx_29 fx_46 rx_p iv_0 iv_1 iv_2 iv_3 iv_4 iv_5 iv_6
  have b_ln1 : (0 : Int) ≤ ln1 ∧ ln1 ≤ 3000 := ex_ln1 ▸ hWx.1 9
  have b_fk1 : (0 : Int) ≤ fk1 ∧ fk1 ≤ 6 := ex_fk1 ▸ hWx.1 16
  have b_sy1 : (0 : Int) ≤ sy1 ∧ sy1 ≤ 202 := ex_sy1 ▸ hWx.1 19
  have b_na1 : (0 : Int) ≤ na1 ∧ na1 ≤ 200 := ex_na1 ▸ hWx.1 28
  refine jx_ld (pc' := 328) (l' := L) (st' := [.ref 66]) rfl (jl_aloadn gL_0) ?_
  refine jx_ld (pc' := 329) (l' := L) (st' := [.int (i32 (p)), .ref 66]) rfl (jl_iloadn gL_1) ?_
  refine jx_vr (pc' := 332) (as := [.int (i32 (p))]) (st := []) rfl rfl rfl rfl ⟨rfl, rfl, Nat.le_of_ble_eq_true rfl⟩ rfl rfl (c_show (dd := d) (hd := by omega) (hW := hWx) (s := p) (vi := vi) (e_vi := show Gx 29 = vi from (fx_29))  (h_s := ⟨(Int.le_trans (by decide : (-2147483648 : Int) ≤ -2147483648) rx_p.1), (Int.le_trans rx_p.2 (by decide : (2147483647 : Int) ≤ 2147483647))⟩)  (p_0 := by omega) (p_1 := by omega)) (fun o V' hq => ?_)
  obtain ⟨G1, A2, vi2_3, sv2_4, rfl, rfl, hW5, hF6, hQ7, e8, e9, p10, p11, -⟩ := hq
  have hF13 := Fr_tr hFx hF6 (Fr_sub (by decide)) (Fr_sub (by decide))
  have hP14 := Pf_f hPx hF6 (by decide)
  have hS15 := Fx_f hSx hF6 (by decide)
  have hV16 := Fx_tr hVx hQ7 (by omega)
  have hK17 := Fx_f hKx hF6 (by decide)
  have ec18 : ecn A2 (G1 31) = ec1 := (ecn_f (hF6.2 15 rfl) (hF6.1 31 rfl)).trans ex_ec1
  have bvi2_3 : (0 : Int) ≤ vi2_3 ∧ vi2_3 ≤ 202 := e8 ▸ hW5.1 29
  have bsv2_4 : (0 : Int) ≤ sv2_4 ∧ sv2_4 ≤ 201 := e9 ▸ hW5.2 14 _
  refine .inl ⟨rfl, ?_⟩
  refine jx_ld (pc' := 333) (l' := L) (st' := [.ref 66]) rfl (jl_aloadn gL_0) ?_
  refine jx_ar (pc' := 334) (st' := [.ref 66, .ref 66]) rfl rfl rfl rfl ?_
  refine jr_get (pc' := 337) (i := 46) (v := .int (i32 (pc0))) rfl rfl (by decide) (rFv_eq (by decide) (show G1 46 = pc0 from ((hF6.1 46 rfl).trans (fx_46)))) rfl ?_
  refine jx_ar (pc' := 338) (st' := [.int (i32 (1)), .int (i32 (pc0)), .ref 66]) rfl rfl rfl rfl ?_
  refine jx_add (pc' := 339) rfl rfl ?_
  refine jr_put (pc' := 342) (i := 46) (z := (pc0 + 1)) rfl rfl (by decide) rfl rfl rfl rfl rfl rfl ?_
  have hW19 : Wk (uG G1 46 ((pc0 + 1))) A2 := Wk_g hW5 (show (0 : Int) ≤ (pc0 + 1) by omega) (show (pc0 + 1) ≤ (24 : Int) by omega)
  have hF20 := Fr_g (z := (pc0 + 1)) (i := 46) hF13 (by decide)
  have ec21 : ecn A2 ((uG G1 46 ((pc0 + 1))) 31) = ec1 := ec18
  refine jx_rt (v := none) rfl rfl rfl rfl rfl rfl ?_
  exact ⟨_, _, ln1, Gx 10, fk1, Gx 31, sy1, na1, vi2_3, A 3 (ln1).toNat, (pc0 + 1), ec1, rfl, rfl, hW19, hF20, hP14, hS15, hV16, hK17, ((hF6.1 9 rfl).trans (ex_ln1)), (hF6.1 10 rfl), ((hF6.1 16 rfl).trans (ex_fk1)), (hF6.1 31 rfl), ((hF6.1 19 rfl).trans (ex_sy1)), ((hF6.1 28 rfl).trans (ex_na1)), (e8), (congrFun ((hF6.2 3 rfl).trans (hFx.2 3 rfl)) _), rfl, ec21, by omega, by omega, by omega, by omega, by first | exact Or.inl (by omega)⟩
set_option maxRecDepth 20000 in
set_option maxHeartbeats 4000000 in
theorem c_readProc_w_at_253 {X : jX} {d : Nat} {Vs : Nat → Prop} {sb pb : Int} (hvb : VB Vs sb) {c0 c1 : jC} {G : Nat → Int} {A : Nat → Nat → Int} {T : jH} {ln li at0 fk nd sy na vi le op0 tk0 pc0 ec : Int} (hd : 8 * 18 + 81 ≤ d + 1) (hW : Wk G A) (e_ln : G 9 = ln) (e_li : G 3 = li) (e_at0 : G 10 = at0) (e_fk : G 16 = fk) (e_nd : G 31 = nd) (e_sy : G 19 = sy) (e_na : G 28 = na) (e_vi : G 29 = vi) (e_le : A 4 (ln).toNat = le) (e_op0 : G 15 = op0) (e_tk0 : G 11 = tk0) (e_pc0 : G 46 = pc0) (e_ec : ecn A (G 31) = ec) (i_LT : LT G A) (i_SV : SV Vs sb G A) (i_PQ : PQ Vs sb pb G A) (p_0 : fk = 0) (p_1 : ln < li) (p_2 : at0 ≤ le) (p_3 : nd ≤ 2 * at0 - tz tk0 + 30) (p_4 : sy ≤ na + 2) (p_5 : vi ≤ sy) (p_6 : sb ≤ sy) (p_7 : pb = pc0) (p_8 : wQ A (pc0).toNat (nd) (sy)) (p_9 : VT (Vs) A (sy)) : ∀ (m : Nat) (L : jL) (Gx : Nat → Int) (Ax : Nat → Nat → Int) (p many kk ln1 at1 fk1 sy1 na1 vi1 pp1 mp1 kp1 np1 lf1 : Int), (many - kk).toNat = m → jGet L 0 = some (.ref 66) → jGet L 4 = some (.int (i32 (vi))) → jGet L 1 = some (.int (i32 p)) → jGet L 2 = some (.int (i32 many)) → jGet L 5 = some (.int (i32 kk)) → Wk Gx Ax → Fr [9, 10, 11, 12, 13, 14, 15, 16, 17, 18, 19, 28, 29, 31, 46] [6, 7, 8, 9, 10, 11, 12, 14, 15, 16, 17, 18, 19, 20, 21, 22, 23, 24, 28, 29, 30, 31] G A Gx Ax → Pf nd A Ax → Fx sr (sy) A Ax → Fx [14] (vi) A Ax → Fx [29, 30, 31] (pc0) A Ax → Gx 9 = ln1 → Gx 10 = at1 → Gx 16 = fk1 → Gx 19 = sy1 → Gx 28 = na1 → Gx 29 = vi1 → Ax 29 (pc0).toNat = pp1 → Ax 30 (pc0).toNat = mp1 → Ax 7 (sy).toNat = kp1 → Ax 12 (sy).toNat = np1 → Ax 3 (ln1).toNat = lf1 → Gx 46 = pc0 → Gx 31 = nd → ecn Ax (Gx 31) = ec → ((-2147483648 : Int) ≤ p ∧ p ≤ 2147483647) → ((-2147483648 : Int) ≤ many ∧ many ≤ 2147483647) → ((-2147483648 : Int) ≤ kk ∧ kk ≤ 2147483647) → (fk1 = 0) → (ln1 = ln + 1) → (at0 ≤ at1) → (at1 < lf1 ∨ li ≤ ln1) → (sy1 = sy + 1 + many) → (sy1 ≤ na1 + 2) → (vi1 = vi + kk) → (0 ≤ kk ∧ kk ≤ many) → (many ≤ 6) → (mp1 = many) → (wM Ax (sy + 1) (many)) → (DS Ax (vi) (vi1) (sy + 1) (sy1)) → (kp1 = 14) → (np1 = pc0) → (pp1 = sy + 1) → (p = sy) → (pc0 ≤ 23) → wj X d jm308 (253, L, [], rV c0 c1 Gx Ax T) (fun o V' => ∃ (G' : Nat → Int) (A' : Nat → Nat → Int) (ln2 : Int) (at2 : Int) (fk2 : Int) (nd2 : Int) (sy2 : Int) (na2 : Int) (vi2 : Int) (lf2 : Int) (pc2 : Int) (ec2 : Int), V' = rV c0 c1 G' A' T ∧ o = .inl none ∧ Wk G' A' ∧ Fr [9, 10, 11, 12, 13, 14, 15, 16, 17, 18, 19, 28, 29, 31, 46] [6, 7, 8, 9, 10, 11, 12, 14, 15, 16, 17, 18, 19, 20, 21, 22, 23, 24, 28, 29, 30, 31] G A G' A' ∧ Pf nd A A' ∧ Fx sr (sy) A A' ∧ Fx [14] (vi) A A' ∧ Fx [29, 30, 31] (pc0) A A' ∧ G' 9 = ln2 ∧ G' 10 = at2 ∧ G' 16 = fk2 ∧ G' 31 = nd2 ∧ G' 19 = sy2 ∧ G' 28 = na2 ∧ G' 29 = vi2 ∧ A' 3 (ln2).toNat = lf2 ∧ G' 46 = pc2 ∧ ecn A' (G' 31) = ec2 ∧ (sy2 ≤ na2 + 2) ∧ (vi2 ≤ sy2) ∧ (ln ≤ ln2) ∧ (ln2 ≤ li) ∧ (((1 ≤ fk2)) ∨ ((fk2 = 0) ∧ (ln < ln2) ∧ (at0 ≤ at2) ∧ (pc2 = pc0 + 1) ∧ (nd2 - nd ≤ 2 * at2 - (2 * at0 - tz tk0)) ∧ (at2 < lf2 ∨ li ≤ ln2) ∧ (vi2 = vi + 1) ∧ (sy < sy2) ∧ (wQ A' (pc2).toNat (nd2) (sy2)) ∧ (SW (Vu Vs sy) (sy2) (vi2) A') ∧ (PQ (Vu Vs sy) (sy2) (pc2) (fun _ => 0) A') ∧ (VT (Vu Vs sy) A' (sy2)) ∧ (nd2 - nd + 5 * (ec2 - ec) ≤ 2 * at2 - (2 * at0 - tz tk0))))) := by
  have hF0 : Fr [9, 10, 11, 12, 13, 14, 15, 16, 17, 18, 19, 28, 29, 31, 46] [6, 7, 8, 9, 10, 11, 12, 14, 15, 16, 17, 18, 19, 20, 21, 22, 23, 24, 28, 29, 30, 31] G A G A := Fr_rf
  have hP0 : Pf nd A A := Pf_rf
  have hS0 : Fx sr (sy) A A := Fx_rf
  have hV0 : Fx [14] (vi) A A := Fx_rf
  have hK0 : Fx [29, 30, 31] (pc0) A A := Fx_rf
  have b_ln : (0 : Int) ≤ ln ∧ ln ≤ 3000 := e_ln ▸ hW.1 9
  have b_li : (0 : Int) ≤ li ∧ li ≤ 3000 := e_li ▸ hW.1 3
  have b_at0 : (0 : Int) ≤ at0 ∧ at0 ≤ 3002 := e_at0 ▸ hW.1 10
  have b_fk : (0 : Int) ≤ fk ∧ fk ≤ 6 := e_fk ▸ hW.1 16
  have b_nd : (0 : Int) ≤ nd ∧ nd ≤ 6999 := e_nd ▸ hW.1 31
  have b_sy : (0 : Int) ≤ sy ∧ sy ≤ 202 := e_sy ▸ hW.1 19
  have b_na : (0 : Int) ≤ na ∧ na ≤ 200 := e_na ▸ hW.1 28
  have b_vi : (0 : Int) ≤ vi ∧ vi ≤ 202 := e_vi ▸ hW.1 29
  have b_le : (0 : Int) ≤ le ∧ le ≤ 3000 := e_le ▸ hW.2 4 _
  have b_op0 : (-2147483648 : Int) ≤ op0 ∧ op0 ≤ 2147483647 := e_op0 ▸ hW.1 15
  have z_tk0 := tz_f tk0
  have b_tk0 : (0 : Int) ≤ tk0 ∧ tk0 ≤ 5 := e_tk0 ▸ hW.1 11
  have b_pc0 : (0 : Int) ≤ pc0 ∧ pc0 ≤ 24 := e_pc0 ▸ hW.1 46
  intro m
  induction m using Nat.strongRecOn with
  | ind m ih253 =>
    intro L Gx Ax p many kk ln1 at1 fk1 sy1 na1 vi1 pp1 mp1 kp1 np1 lf1 hm gL_0 gL_4 gL_1 gL_2 gL_5 hWx hFx hPx hSx hVx hKx ex_ln1 ex_at1 ex_fk1 ex_sy1 ex_na1 ex_vi1 ex_pp1 ex_mp1 ex_kp1 ex_np1 ex_lf1 fx_46 fx_31 fx_900 rx_p rx_many rx_kk iv_0 iv_1 iv_2 iv_3 iv_4 iv_5 iv_6 iv_7 iv_8 iv_9 iv_10 iv_11 iv_12 iv_13 iv_14 iv_15 iv_16
    have b_ln1 : (0 : Int) ≤ ln1 ∧ ln1 ≤ 3000 := ex_ln1 ▸ hWx.1 9
    have b_at1 : (0 : Int) ≤ at1 ∧ at1 ≤ 3002 := ex_at1 ▸ hWx.1 10
    have b_fk1 : (0 : Int) ≤ fk1 ∧ fk1 ≤ 6 := ex_fk1 ▸ hWx.1 16
    have b_sy1 : (0 : Int) ≤ sy1 ∧ sy1 ≤ 202 := ex_sy1 ▸ hWx.1 19
    have b_na1 : (0 : Int) ≤ na1 ∧ na1 ≤ 200 := ex_na1 ▸ hWx.1 28
    have b_vi1 : (0 : Int) ≤ vi1 ∧ vi1 ≤ 202 := ex_vi1 ▸ hWx.1 29
    refine jx_ld (pc' := 255) (l' := L) (st' := [.int (i32 (kk))]) rfl (jl_iload gL_5) ?_
    refine jx_ld (pc' := 256) (l' := L) (st' := [.int (i32 (many)), .int (i32 (kk))]) rfl (jl_iloadn gL_2) ?_
    refine jx_icmp_ge (pc' := 259) (tg := 281) rfl rfl rfl (Int.le_trans (by decide : (-2147483648 : Int) ≤ -2147483648) rx_kk.1) (Int.le_trans rx_kk.2 (by decide : (2147483647 : Int) ≤ 2147483647)) (Int.le_trans (by decide : (-2147483648 : Int) ≤ -2147483648) rx_many.1) (Int.le_trans rx_many.2 (by decide : (2147483647 : Int) ≤ 2147483647)) (fun h22 => ?_) (fun h22 => ?_)
    · have _q := h22
      refine jx_ld (pc' := 282) (l' := L) (st' := [.ref 66]) rfl (jl_aloadn gL_0) ?_
      refine jr_get (pc' := 285) (i := 49) (v := .ref 98) rfl rfl (by decide) rfl rfl ?_
      refine jx_ld (pc' := 286) (l' := L) (st' := [.ref 66, .ref 98]) rfl (jl_aloadn gL_0) ?_
      refine jr_get (pc' := 289) (i := 46) (v := .int (i32 (pc0))) rfl rfl (by decide) (rFv_eq (by decide) (show Gx 46 = pc0 from (fx_46))) rfl ?_
      refine jx_ld (pc' := 290) (l' := L) (st' := [.ref 66, .int (i32 (pc0)), .ref 98]) rfl (jl_aloadn gL_0) ?_
      refine jx_ar (pc' := 291) (st' := [.int (i32 (1)), .ref 66, .int (i32 (pc0)), .ref 98]) rfl rfl rfl rfl ?_
      refine jx_vr (pc' := 294) (as := [.int (i32 (1))]) (st := [.int (i32 (pc0)), .ref 98]) rfl rfl rfl rfl ⟨rfl, rfl, Nat.le_of_ble_eq_true rfl⟩ rfl rfl (RPw_all X 18 (dd := d) (hd := by omega) (hW := hWx) (lv := 1) (at0 := at1) (ln := ln1) (e_ln := show Gx 9 = ln1 from (ex_ln1)) (li := li) (e_li := show Gx 3 = li from ((hFx.1 3 rfl).trans (e_li))) (fk := fk1) (e_fk := show Gx 16 = fk1 from (ex_fk1)) (nd := nd) (e_nd := show Gx 31 = nd from (fx_31)) (sy := sy1) (e_sy := show Gx 19 = sy1 from (ex_sy1)) (na := na1) (e_na := show Gx 28 = na1 from (ex_na1)) (vi := vi1) (e_vi := show Gx 29 = vi1 from (ex_vi1)) (lf := lf1) (e_lf := show Ax 3 (ln1).toNat = lf1 from (ex_lf1)) (ac := at1) (e_ac := show Gx 10 = at1 from (ex_at1)) (ec := ec) (e_ec := show ecn Ax (Gx 31) = ec from fx_900) (i_LT := (LT_ext ((hFx.1 3 rfl)) ((hFx.2 3 rfl)) ((hFx.2 4 rfl)) i_LT)) (i_SV := (SV_dec (s0 := (sy + 1)) (s1 := sy1) i_SV e_vi (show Gx 29 = vi1 from (ex_vi1)) (by omega) hVx iv_11 (by omega))) (i_PQ := (PQ_par (s0 := (sy + 1)) (s1 := sy1) i_PQ hSx (by omega) (by omega) (Fx_su hKx (by omega)) (by omega) (wM_m iv_10 (by omega)) hvb)) (hvb := (VB_d (s0 := (sy + 1)) (s1 := sy1) hvb (by omega))) (h_lv := ⟨(by decide), (by decide)⟩)  (p_0 := by omega) (p_1 := by omega) (p_2 := by omega) (p_3 := by omega) (p_4 := by omega) (p_5 := by omega) (p_6 := by omega) (p_7 := by omega) (p_8 := by omega) (p_9 := by omega) (p_10 := by omega)) (fun o V' hq => ?_)
      obtain ⟨G23, A24, r25, ln2_26, at2_27, fk2_28, nd2_29, sy2_30, na2_31, vi2_32, lf2_33, ec2_34, rfl, rfl, hW35, hF36, hQ37, hQ38, hQ39, b40, e41, e42, e43, e44, e45, e46, e47, e48, e49, p50, p51, p52, p53, p54, p55, p56, p57, p58, q59⟩ := hq
      have hF60 := Fr_tr hFx hF36 (Fr_sub (by decide)) (Fr_sub (by decide))
      have hP61 := Pf_tr hPx hQ37 (by omega)
      have hS62 := Fx_tr hSx hQ38 (by omega)
      have hV63 := Fx_tr hVx hQ39 (by omega)
      have hK64 := Fx_f hKx hF36 (by decide)
      have k65 : A24 7 (sy).toNat = kp1 := (hQ38 7 _ rfl (by omega)).trans (show Ax 7 (sy).toNat = kp1 from (ex_kp1))
      have k66 : A24 12 (sy).toNat = np1 := (hQ38 12 _ rfl (by omega)).trans (show Ax 12 (sy).toNat = np1 from (ex_np1))
      have sf67 : wM A24 (sy + 1) (many) := wM_fx hQ38 (by omega) (by omega) iv_10
      have sf68 : DS A24 (vi) (vi1) (sy + 1) (sy1) := DS_fx hQ39 (by omega) iv_11
      have bln2_26 : (0 : Int) ≤ ln2_26 ∧ ln2_26 ≤ 3000 := e41 ▸ hW35.1 9
      have bat2_27 : (0 : Int) ≤ at2_27 ∧ at2_27 ≤ 3002 := e42 ▸ hW35.1 10
      have bfk2_28 : (0 : Int) ≤ fk2_28 ∧ fk2_28 ≤ 6 := e43 ▸ hW35.1 16
      have bnd2_29 : (0 : Int) ≤ nd2_29 ∧ nd2_29 ≤ 6999 := e44 ▸ hW35.1 31
      have bsy2_30 : (0 : Int) ≤ sy2_30 ∧ sy2_30 ≤ 202 := e45 ▸ hW35.1 19
      have bna2_31 : (0 : Int) ≤ na2_31 ∧ na2_31 ≤ 200 := e46 ▸ hW35.1 28
      have bvi2_32 : (0 : Int) ≤ vi2_32 ∧ vi2_32 ≤ 202 := e47 ▸ hW35.1 29
      have blf2_33 : (0 : Int) ≤ lf2_33 ∧ lf2_33 ≤ 3000 := e48 ▸ hW35.2 3 _
      refine .inr ⟨_, rfl, ?_⟩
      rcases q59 with ⟨a69, a70⟩ | ⟨a71, a72, a73, a74, a75, a76, a77, a78, a79, a80⟩
      · have _q : True := trivial
        refine jr_st (pc' := 295) (i := 31) (m := 25) (z := pc0) (y := r25) rfl (by decide) rfl (by decide) (by omega) (by omega) rfl ?_
        have hW82 : Wk G23 (uA A24 31 (pc0).toNat (r25)) := Wk_a hW35 (show (-2147483648 : Int) ≤ r25 by omega) (show r25 ≤ (2147483647 : Int) by omega)
        have hF83 := Fr_a (z := r25) (k := 31) (n := (pc0).toNat) hF60 (by decide)
        obtain ⟨A81, eA81⟩ : ∃ q, q = uA A24 31 (pc0).toNat (r25) := ⟨_, rfl⟩
        rw [← eA81]
        rw [← eA81] at hW82 hF83
        have q84 : A81 31 (pc0).toNat = r25 := by rw [eA81]; exact uA_eq
        have hP85 : Pf nd A A81 := eA81 ▸ Pf_n hP61 rfl
        have hS86 : Fx sr (sy) A A81 := eA81 ▸ Fx_n hS62 rfl
        have hV87 : Fx [14] (vi) A A81 := eA81 ▸ Fx_n hV63 rfl
        have hK88 : Fx [29, 30, 31] (pc0) A A81 := eA81 ▸ Fx_a hK64 (z := pc0) (by omega) (by omega)
        have sf89 : wM A81 (sy + 1) (many) := wM_fx (Sg_ne (sb := sy + 1 + many) eA81 rfl) (by omega) (by omega) sf67
        have sf90 : DS A81 (vi) (vi1) (sy + 1) (sy1) := DS_ext ((congrFun eA81 14).trans (uA_ne (by decide))) sf68
        have ec91 : ecn A81 (G23 31) = ec2_34 := (ecn_e ((congrFun eA81 15).trans (uA_ne (by decide)))).trans e49
        refine jx_ld (pc' := 296) (l' := L) (st' := [.ref 66]) rfl (jl_aloadn gL_0) ?_
        refine jx_ld (pc' := 298) (l' := L) (st' := [.int (i32 (vi)), .ref 66]) rfl (jl_iload gL_4) ?_
        refine jr_put (pc' := 301) (i := 29) (z := vi) rfl rfl (by decide) rfl rfl rfl rfl rfl rfl ?_
        have hW92 : Wk (uG G23 29 (vi)) A81 := Wk_g hW82 (show (0 : Int) ≤ vi by omega) (show vi ≤ (202 : Int) by omega)
        have hF93 := Fr_g (z := vi) (i := 29) hF83 (by decide)
        have ec94 : ecn A81 ((uG G23 29 (vi)) 31) = ec2_34 := ec91
        have _q : True := trivial
        refine jx_ld (pc' := 302) (l' := L) (st' := [.ref 66]) rfl (jl_aloadn gL_0) ?_
        refine jx_ar (pc' := 303) (st' := [.int (i32 (0)), .ref 66]) rfl rfl rfl rfl ?_
        have b95 : (-1 : Int) ≤ A 5 (ln2_26).toNat ∧ A 5 (ln2_26).toNat ≤ 15 := hW.2 5 _
        refine jx_vr (pc' := 306) (as := [.int (i32 (0))]) (st := []) rfl rfl rfl rfl ⟨rfl, rfl, Nat.le_of_ble_eq_true rfl⟩ rfl rfl (c_needLevel (dd := d) (hd := by omega) (hW := hW92) (lv := 0) (ln := ln2_26) (e_ln := show (uG G23 29 (vi)) 9 = ln2_26 from (e41)) (li := li) (e_li := show (uG G23 29 (vi)) 3 = li from ((hF36.1 3 rfl).trans ((hFx.1 3 rfl).trans (e_li)))) (fk := fk2_28) (e_fk := show (uG G23 29 (vi)) 16 = fk2_28 from (e43)) (ll := A 5 (ln2_26).toNat) (e_ll := show A81 5 (ln2_26).toNat = A 5 (ln2_26).toNat from (congrFun (((congrFun eA81 5).trans (uA_ne (by decide))).trans ((hF36.2 5 rfl).trans (hFx.2 5 rfl))) _))  (h_lv := ⟨(by decide), (by decide)⟩)  ) (fun o V' hq => ?_)
        obtain ⟨G96, A97, r98, fk2_99, rfl, rfl, hW100, hF101, b102, e103, q104⟩ := hq
        have hF105 := Fr_tr hF93 hF101 (Fr_sub (by decide)) (Fr_sub (by decide))
        have hP106 := Pf_f hP85 hF101 (by decide)
        have hS107 := Fx_f hS86 hF101 (by decide)
        have hV108 := Fx_f hV87 hF101 (by decide)
        have hK109 := Fx_f hK88 hF101 (by decide)
        have sf110 : wM A97 (sy + 1) (many) := wM_fx (Sg_fr (sb := sy + 1 + many) hF101 (by decide)) (by omega) (by omega) sf89
        have ec111 : ecn A97 (G96 31) = ec2_34 := (ecn_f (hF101.2 15 rfl) (hF101.1 31 rfl)).trans ec94
        have bfk2_99 : (0 : Int) ≤ fk2_99 ∧ fk2_99 ≤ 6 := e103 ▸ hW100.1 16
        refine .inr ⟨_, rfl, ?_⟩
        rcases q104 with ⟨rfl, a112, a113, a114, a115⟩ | ⟨rfl, a116⟩
        · have _q : True := trivial
          exfalso
          omega
        · have _q : True := trivial
          refine jx_if_eq (pc' := 309) (tg := 327) rfl rfl rfl (by decide) (by decide) (fun h117 => ?_) (fun h117 => ?_)
          · have _q := h117
            exact c_readProc_w_at_327p (X := X) (d := d) (Vs := Vs) (sb := sb) (pb := pb) (hvb := hvb) (c0 := c0) (c1 := c1) (G := G) (A := A) (T := T) (ln := ln) (li := li) (at0 := at0) (fk := fk) (nd := nd) (sy := sy) (na := na) (vi := vi) (le := le) (op0 := op0) (tk0 := tk0) (pc0 := pc0) (ec := ec) (hd := hd) (hW := hW) (e_ln := e_ln) (e_li := e_li) (e_at0 := e_at0) (e_fk := e_fk) (e_nd := e_nd) (e_sy := e_sy) (e_na := e_na) (e_vi := e_vi) (e_le := e_le) (e_op0 := e_op0) (e_tk0 := e_tk0) (e_pc0 := e_pc0) (e_ec := e_ec) (i_LT := i_LT) (i_SV := i_SV) (i_PQ := i_PQ) (p_0 := p_0) (p_1 := p_1) (p_2 := p_2) (p_3 := p_3) (p_4 := p_4) (p_5 := p_5) (p_6 := p_6) (p_7 := p_7) (p_8 := p_8) (p_9 := p_9) L G96 A97 (p) (ln2_26) (fk2_99) (sy2_30) (na2_31) (ec2_34) gL_0 gL_1 hW100 hF105 hP106 hS107 hV108 hK109 (((hF101.1 9 rfl).trans (e41))) ((e103)) (((hF101.1 19 rfl).trans (e45))) (((hF101.1 28 rfl).trans (e46))) (ec111) ((hF101.1 29 rfl)) (((hF101.1 46 rfl).trans ((hF36.1 46 rfl).trans (fx_46)))) (by omega) (by omega) (by omega) (by omega) (by omega) (by omega) (by omega) (by omega)
          · have _q := h117
            exact absurd h117 (by omega)
      · have _q : True := trivial
        refine jr_st (pc' := 295) (i := 31) (m := 25) (z := pc0) (y := r25) rfl (by decide) rfl (by decide) (by omega) (by omega) rfl ?_
        have hW119 : Wk G23 (uA A24 31 (pc0).toNat (r25)) := Wk_a hW35 (show (-2147483648 : Int) ≤ r25 by omega) (show r25 ≤ (2147483647 : Int) by omega)
        have hF120 := Fr_a (z := r25) (k := 31) (n := (pc0).toNat) hF60 (by decide)
        obtain ⟨A118, eA118⟩ : ∃ q, q = uA A24 31 (pc0).toNat (r25) := ⟨_, rfl⟩
        rw [← eA118]
        rw [← eA118] at hW119 hF120
        have q121 : A118 31 (pc0).toNat = r25 := by rw [eA118]; exact uA_eq
        have hP122 : Pf nd A A118 := eA118 ▸ Pf_n hP61 rfl
        have hS123 : Fx sr (sy) A A118 := eA118 ▸ Fx_n hS62 rfl
        have hV124 : Fx [14] (vi) A A118 := eA118 ▸ Fx_n hV63 rfl
        have hK125 : Fx [29, 30, 31] (pc0) A A118 := eA118 ▸ Fx_a hK64 (z := pc0) (by omega) (by omega)
        have sf126 : wM A118 (sy + 1) (many) := wM_fx (Sg_ne (sb := sy + 1 + many) eA118 rfl) (by omega) (by omega) sf67
        have sf127 : DS A118 (vi) (vi1) (sy + 1) (sy1) := DS_ext ((congrFun eA118 14).trans (uA_ne (by decide))) sf68
        have sf128 : wP A118 (sy2_30) pb (18) (Vd Vs (sy + 1) sy1) (r25) (nd) (nd2_29) (sy1) (sy2_30) := wP_ag (Sg_ne eA118 rfl) (Qg_ne eA118 rfl) (by omega) (by omega) (Ax_ag (Ag_ne eA118 rfl)) a77
        have sf129 : NX A118 (r25) := NX_r eA118 (by decide) a78
        have ec130 : ecn A118 (G23 31) = ec2_34 := (ecn_e ((congrFun eA118 15).trans (uA_ne (by decide)))).trans e49
        refine jx_ld (pc' := 296) (l' := L) (st' := [.ref 66]) rfl (jl_aloadn gL_0) ?_
        refine jx_ld (pc' := 298) (l' := L) (st' := [.int (i32 (vi)), .ref 66]) rfl (jl_iload gL_4) ?_
        refine jr_put (pc' := 301) (i := 29) (z := vi) rfl rfl (by decide) rfl rfl rfl rfl rfl rfl ?_
        have hW131 : Wk (uG G23 29 (vi)) A118 := Wk_g hW119 (show (0 : Int) ≤ vi by omega) (show vi ≤ (202 : Int) by omega)
        have hF132 := Fr_g (z := vi) (i := 29) hF120 (by decide)
        have ec133 : ecn A118 ((uG G23 29 (vi)) 31) = ec2_34 := ec130
        have _q : True := trivial
        refine jx_ld (pc' := 302) (l' := L) (st' := [.ref 66]) rfl (jl_aloadn gL_0) ?_
        refine jx_ar (pc' := 303) (st' := [.int (i32 (0)), .ref 66]) rfl rfl rfl rfl ?_
        have b134 : (-1 : Int) ≤ A 5 (ln2_26).toNat ∧ A 5 (ln2_26).toNat ≤ 15 := hW.2 5 _
        refine jx_vr (pc' := 306) (as := [.int (i32 (0))]) (st := []) rfl rfl rfl rfl ⟨rfl, rfl, Nat.le_of_ble_eq_true rfl⟩ rfl rfl (c_needLevel (dd := d) (hd := by omega) (hW := hW131) (lv := 0) (ln := ln2_26) (e_ln := show (uG G23 29 (vi)) 9 = ln2_26 from (e41)) (li := li) (e_li := show (uG G23 29 (vi)) 3 = li from ((hF36.1 3 rfl).trans ((hFx.1 3 rfl).trans (e_li)))) (fk := fk2_28) (e_fk := show (uG G23 29 (vi)) 16 = fk2_28 from (e43)) (ll := A 5 (ln2_26).toNat) (e_ll := show A118 5 (ln2_26).toNat = A 5 (ln2_26).toNat from (congrFun (((congrFun eA118 5).trans (uA_ne (by decide))).trans ((hF36.2 5 rfl).trans (hFx.2 5 rfl))) _))  (h_lv := ⟨(by decide), (by decide)⟩)  ) (fun o V' hq => ?_)
        obtain ⟨G135, A136, r137, fk2_138, rfl, rfl, hW139, hF140, b141, e142, q143⟩ := hq
        have hF144 := Fr_tr hF132 hF140 (Fr_sub (by decide)) (Fr_sub (by decide))
        have hP145 := Pf_f hP122 hF140 (by decide)
        have hS146 := Fx_f hS123 hF140 (by decide)
        have hV147 := Fx_f hV124 hF140 (by decide)
        have hK148 := Fx_f hK125 hF140 (by decide)
        have sf149 : wM A136 (sy + 1) (many) := wM_fx (Sg_fr (sb := sy + 1 + many) hF140 (by decide)) (by omega) (by omega) sf126
        have sf150 : wP A136 (sy2_30) pb (18) (Vd Vs (sy + 1) sy1) (r25) (nd) (nd2_29) (sy1) (sy2_30) := wP_ag (Sg_fr hF140 (by decide)) (Qg_fr hF140 (by decide)) (by omega) (by omega) (Ax_ag (Ag_fr hF140 (by decide))) sf128
        have sf151 : NX A136 (r25) := NX_ag (by omega) (Ag_fr hF140 (by decide)) sf129
        have ec152 : ecn A136 (G135 31) = ec2_34 := (ecn_f (hF140.2 15 rfl) (hF140.1 31 rfl)).trans ec133
        have bfk2_138 : (0 : Int) ≤ fk2_138 ∧ fk2_138 ≤ 6 := e142 ▸ hW139.1 16
        refine .inr ⟨_, rfl, ?_⟩
        rcases q143 with ⟨rfl, a153, a154, a155, a156⟩ | ⟨rfl, a157⟩
        · have _q : True := trivial
          have b158 : (0 : Int) ≤ A 4 (ln2_26).toNat ∧ A 4 (ln2_26).toNat ≤ 3000 := hW.2 4 _
          have lt159 : lf2_33 < A 4 (ln2_26).toNat := LT_at (LT_ext (((hF140.1 3 rfl).trans ((hF36.1 3 rfl).trans (hFx.1 3 rfl)))) (((hF140.2 3 rfl).trans (((congrFun eA118 3).trans (uA_ne (by decide))).trans ((hF36.2 3 rfl).trans (hFx.2 3 rfl))))) (((hF140.2 4 rfl).trans (((congrFun eA118 4).trans (uA_ne (by decide))).trans ((hF36.2 4 rfl).trans (hFx.2 4 rfl))))) i_LT) (show G135 3 = li from ((hF140.1 3 rfl).trans ((hF36.1 3 rfl).trans ((hFx.1 3 rfl).trans (e_li))))) (show A136 3 (ln2_26).toNat = lf2_33 from (congrFun ((hF140.2 3 rfl).trans ((congrFun eA118 3).trans (uA_ne (by decide)))) _).trans (e48)) (show A136 4 (ln2_26).toNat = A 4 (ln2_26).toNat from (congrFun ((hF140.2 4 rfl).trans (((congrFun eA118 4).trans (uA_ne (by decide))).trans ((hF36.2 4 rfl).trans (hFx.2 4 rfl)))) _)) (by omega) (by omega)
          refine jx_if_eq (pc' := 309) (tg := 327) rfl rfl rfl (by decide) (by decide) (fun h160 => ?_) (fun h160 => ?_)
          · have _q := h160
            exact absurd h160 (by omega)
          · have _q := h160
            refine jx_ld (pc' := 310) (l' := L) (st' := [.ref 66]) rfl (jl_aloadn gL_0) ?_
            refine jx_vr (pc' := 313) (as := []) (st := []) rfl rfl rfl rfl ⟨rfl, rfl, Nat.le_of_ble_eq_true rfl⟩ rfl rfl (c_openLine (dd := d) (hd := by omega) (hW := hW139)  (ln := ln2_26) (e_ln := show G135 9 = ln2_26 from ((hF140.1 9 rfl).trans (e41))) (le := A 4 (ln2_26).toNat) (e_le := show A136 4 (ln2_26).toNat = A 4 (ln2_26).toNat from (congrFun ((hF140.2 4 rfl).trans (((congrFun eA118 4).trans (uA_ne (by decide))).trans ((hF36.2 4 rfl).trans (hFx.2 4 rfl)))) _)) (lf := lf2_33) (e_lf := show A136 3 (ln2_26).toNat = lf2_33 from (congrFun ((hF140.2 3 rfl).trans ((congrFun eA118 3).trans (uA_ne (by decide)))) _).trans (e48))    (p_0 := by omega)) (fun o V' hq => ?_)
            obtain ⟨G161, A162, at2_163, tk2_164, op2_165, rfl, rfl, hW166, hF167, e168, e169, e170, p171, p172, p173, p174, -⟩ := hq
            have hF176 := Fr_tr hF144 hF167 (Fr_sub (by decide)) (Fr_sub (by decide))
            have hP177 := Pf_f hP145 hF167 (by decide)
            have hS178 := Fx_f hS146 hF167 (by decide)
            have hV179 := Fx_f hV147 hF167 (by decide)
            have hK180 := Fx_f hK148 hF167 (by decide)
            have sf181 : wM A162 (sy + 1) (many) := wM_fx (Sg_fr (sb := sy + 1 + many) hF167 (by decide)) (by omega) (by omega) sf149
            have sf182 : wP A162 (sy2_30) pb (18) (Vd Vs (sy + 1) sy1) (r25) (nd) (nd2_29) (sy1) (sy2_30) := wP_ag (Sg_fr hF167 (by decide)) (Qg_fr hF167 (by decide)) (by omega) (by omega) (Ax_ag (Ag_fr hF167 (by decide))) sf150
            have sf183 : NX A162 (r25) := NX_ag (by omega) (Ag_fr hF167 (by decide)) sf151
            have ec184 : ecn A162 (G161 31) = ec2_34 := (ecn_f (hF167.2 15 rfl) (hF167.1 31 rfl)).trans ec152
            have bat2_163 : (0 : Int) ≤ at2_163 ∧ at2_163 ≤ 3002 := e168 ▸ hW166.1 10
            have ztk2_164 := tz_b tk2_164
            have btk2_164 : (0 : Int) ≤ tk2_164 ∧ tk2_164 ≤ 5 := e169 ▸ hW166.1 11
            have bop2_165 : (-2147483648 : Int) ≤ op2_165 ∧ op2_165 ≤ 2147483647 := e170 ▸ hW166.1 15
            refine .inl ⟨rfl, ?_⟩
            have pz185 : lf2_33 + tz tk2_164 ≤ at2_163 := by omega
            refine jx_ld (pc' := 314) (l' := L) (st' := [.ref 66]) rfl (jl_aloadn gL_0) ?_
            refine jx_ld (pc' := 315) (l' := L) (st' := [.ref 66, .ref 66]) rfl (jl_aloadn gL_0) ?_
            refine jx_ar (pc' := 317) (st' := [.int (i32 (58)), .ref 66, .ref 66]) rfl rfl rfl rfl ?_
            have b186 : (-2147483648 : Int) ≤ G161 13 ∧ G161 13 ≤ 2147483647 := hW166.1 13
            refine jx_vr (pc' := 320) (as := [.int (i32 (58))]) (st := [.ref 66]) rfl rfl rfl rfl ⟨rfl, rfl, Nat.le_of_ble_eq_true rfl⟩ rfl rfl (c_is (dd := d) (hd := by omega) (hW := hW166) (k := 58) (tk := tk2_164) (e_tk := show G161 11 = tk2_164 from (e169)) (tn := G161 13) (e_tn := show G161 13 = G161 13 from rfl)  (h_k := ⟨(by decide), (by decide)⟩)  ) (fun o V' hq => ?_)
            obtain ⟨r187, rfl, rfl, b188, q189⟩ := hq
            refine .inr ⟨_, rfl, ?_⟩
            rcases q189 with ⟨rfl, a190, a191, a192⟩ | rfl
            · have _q : True := trivial
              refine jx_vr (pc' := 323) (as := [.int (i32 (1))]) (st := []) rfl rfl rfl rfl ⟨rfl, rfl, Nat.le_of_ble_eq_true rfl⟩ rfl rfl (c_need (dd := d) (hd := by omega) (hW := hW166) (g := 1) (ln := ln2_26) (e_ln := show G161 9 = ln2_26 from ((hF167.1 9 rfl).trans ((hF140.1 9 rfl).trans (e41)))) (le := A 4 (ln2_26).toNat) (e_le := show A162 4 (ln2_26).toNat = A 4 (ln2_26).toNat from (congrFun ((hF167.2 4 rfl).trans ((hF140.2 4 rfl).trans (((congrFun eA118 4).trans (uA_ne (by decide))).trans ((hF36.2 4 rfl).trans (hFx.2 4 rfl))))) _)) (at0 := at2_163) (e_at0 := show G161 10 = at2_163 from (e168)) (fk := fk2_138) (e_fk := show G161 16 = fk2_138 from ((hF167.1 16 rfl).trans (e142))) (tk0 := tk2_164) (e_tk0 := show G161 11 = tk2_164 from (e169))  (h_g := ⟨(by decide), (by decide)⟩)  (p_0 := by omega)) (fun o V' hq => ?_)
              obtain ⟨G193, A194, at2_195, tk2_196, fk2_197, rfl, rfl, hW198, hF199, e200, e201, e202, p203, p204, q205⟩ := hq
              have hF206 := Fr_tr hF176 hF199 (Fr_sub (by decide)) (Fr_sub (by decide))
              have hP207 := Pf_f hP177 hF199 (by decide)
              have hS208 := Fx_f hS178 hF199 (by decide)
              have hV209 := Fx_f hV179 hF199 (by decide)
              have hK210 := Fx_f hK180 hF199 (by decide)
              have sf211 : wM A194 (sy + 1) (many) := wM_fx (Sg_fr (sb := sy + 1 + many) hF199 (by decide)) (by omega) (by omega) sf181
              have sf212 : wP A194 (sy2_30) pb (18) (Vd Vs (sy + 1) sy1) (r25) (nd) (nd2_29) (sy1) (sy2_30) := wP_ag (Sg_fr hF199 (by decide)) (Qg_fr hF199 (by decide)) (by omega) (by omega) (Ax_ag (Ag_fr hF199 (by decide))) sf182
              have sf213 : NX A194 (r25) := NX_ag (by omega) (Ag_fr hF199 (by decide)) sf183
              have ec214 : ecn A194 (G193 31) = ec2_34 := (ecn_f (hF199.2 15 rfl) (hF199.1 31 rfl)).trans ec184
              have bat2_195 : (0 : Int) ≤ at2_195 ∧ at2_195 ≤ 3002 := e200 ▸ hW198.1 10
              have ztk2_196 := tz_b tk2_196
              have btk2_196 : (0 : Int) ≤ tk2_196 ∧ tk2_196 ≤ 5 := e201 ▸ hW198.1 11
              have bfk2_197 : (0 : Int) ≤ fk2_197 ∧ fk2_197 ≤ 6 := e202 ▸ hW198.1 16
              refine .inl ⟨rfl, ?_⟩
              rcases q205 with ⟨a215, a216, a217, a218⟩ | ⟨a219, a220, a221, a222⟩
              · have _q : True := trivial
                refine jx_ld (pc' := 324) (l' := L) (st' := [.ref 66]) rfl (jl_aloadn gL_0) ?_
                refine jx_vr (pc' := 327) (as := []) (st := []) rfl rfl rfl rfl ⟨rfl, rfl, Nat.le_of_ble_eq_true rfl⟩ rfl rfl (c_endLine (dd := d) (hd := by omega) (hW := hW198)  (ln := ln2_26) (e_ln := show G193 9 = ln2_26 from ((hF199.1 9 rfl).trans ((hF167.1 9 rfl).trans ((hF140.1 9 rfl).trans (e41))))) (li := li) (e_li := show G193 3 = li from ((hF199.1 3 rfl).trans ((hF167.1 3 rfl).trans ((hF140.1 3 rfl).trans ((hF36.1 3 rfl).trans ((hFx.1 3 rfl).trans (e_li))))))) (fk := fk2_197) (e_fk := show G193 16 = fk2_197 from (e202)) (tk0 := tk2_196) (e_tk0 := show G193 11 = tk2_196 from (e201))    (p_0 := by omega)) (fun o V' hq => ?_)
                obtain ⟨G223, A224, ln2_225, fk2_226, rfl, rfl, hW227, hF228, e229, e230, q231⟩ := hq
                have hF232 := Fr_tr hF206 hF228 (Fr_sub (by decide)) (Fr_sub (by decide))
                have hP233 := Pf_f hP207 hF228 (by decide)
                have hS234 := Fx_f hS208 hF228 (by decide)
                have hV235 := Fx_f hV209 hF228 (by decide)
                have hK236 := Fx_f hK210 hF228 (by decide)
                have sf237 : wM A224 (sy + 1) (many) := wM_fx (Sg_fr (sb := sy + 1 + many) hF228 (by decide)) (by omega) (by omega) sf211
                have sf238 : wP A224 (sy2_30) pb (18) (Vd Vs (sy + 1) sy1) (r25) (nd) (nd2_29) (sy1) (sy2_30) := wP_ag (Sg_fr hF228 (by decide)) (Qg_fr hF228 (by decide)) (by omega) (by omega) (Ax_ag (Ag_fr hF228 (by decide))) sf212
                have sf239 : NX A224 (r25) := NX_ag (by omega) (Ag_fr hF228 (by decide)) sf213
                have ec240 : ecn A224 (G223 31) = ec2_34 := (ecn_f (hF228.2 15 rfl) (hF228.1 31 rfl)).trans ec214
                have bln2_225 : (0 : Int) ≤ ln2_225 ∧ ln2_225 ≤ 3000 := e229 ▸ hW227.1 9
                have bfk2_226 : (0 : Int) ≤ fk2_226 ∧ fk2_226 ≤ 6 := e230 ▸ hW227.1 16
                refine .inl ⟨rfl, ?_⟩
                rcases q231 with ⟨a241, a242, a243, a244, a245⟩ | ⟨a246, a247⟩
                · have _q : True := trivial
                  exfalso
                  omega
                · have _q : True := trivial
                  exact c_readProc_w_at_327p (X := X) (d := d) (Vs := Vs) (sb := sb) (pb := pb) (hvb := hvb) (c0 := c0) (c1 := c1) (G := G) (A := A) (T := T) (ln := ln) (li := li) (at0 := at0) (fk := fk) (nd := nd) (sy := sy) (na := na) (vi := vi) (le := le) (op0 := op0) (tk0 := tk0) (pc0 := pc0) (ec := ec) (hd := hd) (hW := hW) (e_ln := e_ln) (e_li := e_li) (e_at0 := e_at0) (e_fk := e_fk) (e_nd := e_nd) (e_sy := e_sy) (e_na := e_na) (e_vi := e_vi) (e_le := e_le) (e_op0 := e_op0) (e_tk0 := e_tk0) (e_pc0 := e_pc0) (e_ec := e_ec) (i_LT := i_LT) (i_SV := i_SV) (i_PQ := i_PQ) (p_0 := p_0) (p_1 := p_1) (p_2 := p_2) (p_3 := p_3) (p_4 := p_4) (p_5 := p_5) (p_6 := p_6) (p_7 := p_7) (p_8 := p_8) (p_9 := p_9) L G223 A224 (p) (ln2_225) (fk2_226) (sy2_30) (na2_31) (ec2_34) gL_0 gL_1 hW227 hF232 hP233 hS234 hV235 hK236 ((e229)) ((e230)) (((hF228.1 19 rfl).trans ((hF199.1 19 rfl).trans ((hF167.1 19 rfl).trans ((hF140.1 19 rfl).trans (e45)))))) (((hF228.1 28 rfl).trans ((hF199.1 28 rfl).trans ((hF167.1 28 rfl).trans ((hF140.1 28 rfl).trans (e46)))))) (ec240) (((hF228.1 29 rfl).trans ((hF199.1 29 rfl).trans ((hF167.1 29 rfl).trans (hF140.1 29 rfl))))) (((hF228.1 46 rfl).trans ((hF199.1 46 rfl).trans ((hF167.1 46 rfl).trans ((hF140.1 46 rfl).trans ((hF36.1 46 rfl).trans (fx_46))))))) (by omega) (by omega) (by omega) (by omega) (by omega) (by omega) (by omega) (by omega)
              · have _q : True := trivial
                have pz248 : at2_163 + tz tk2_196 ≤ at2_195 := by omega
                refine jx_ld (pc' := 324) (l' := L) (st' := [.ref 66]) rfl (jl_aloadn gL_0) ?_
                refine jx_vr (pc' := 327) (as := []) (st := []) rfl rfl rfl rfl ⟨rfl, rfl, Nat.le_of_ble_eq_true rfl⟩ rfl rfl (c_endLine (dd := d) (hd := by omega) (hW := hW198)  (ln := ln2_26) (e_ln := show G193 9 = ln2_26 from ((hF199.1 9 rfl).trans ((hF167.1 9 rfl).trans ((hF140.1 9 rfl).trans (e41))))) (li := li) (e_li := show G193 3 = li from ((hF199.1 3 rfl).trans ((hF167.1 3 rfl).trans ((hF140.1 3 rfl).trans ((hF36.1 3 rfl).trans ((hFx.1 3 rfl).trans (e_li))))))) (fk := fk2_197) (e_fk := show G193 16 = fk2_197 from (e202)) (tk0 := tk2_196) (e_tk0 := show G193 11 = tk2_196 from (e201))    (p_0 := by omega)) (fun o V' hq => ?_)
                obtain ⟨G249, A250, ln2_251, fk2_252, rfl, rfl, hW253, hF254, e255, e256, q257⟩ := hq
                have hF258 := Fr_tr hF206 hF254 (Fr_sub (by decide)) (Fr_sub (by decide))
                have hP259 := Pf_f hP207 hF254 (by decide)
                have hS260 := Fx_f hS208 hF254 (by decide)
                have hV261 := Fx_f hV209 hF254 (by decide)
                have hK262 := Fx_f hK210 hF254 (by decide)
                have sf263 : wM A250 (sy + 1) (many) := wM_fx (Sg_fr (sb := sy + 1 + many) hF254 (by decide)) (by omega) (by omega) sf211
                have sf264 : wP A250 (sy2_30) pb (18) (Vd Vs (sy + 1) sy1) (r25) (nd) (nd2_29) (sy1) (sy2_30) := wP_ag (Sg_fr hF254 (by decide)) (Qg_fr hF254 (by decide)) (by omega) (by omega) (Ax_ag (Ag_fr hF254 (by decide))) sf212
                have sf265 : NX A250 (r25) := NX_ag (by omega) (Ag_fr hF254 (by decide)) sf213
                have ec266 : ecn A250 (G249 31) = ec2_34 := (ecn_f (hF254.2 15 rfl) (hF254.1 31 rfl)).trans ec214
                have bln2_251 : (0 : Int) ≤ ln2_251 ∧ ln2_251 ≤ 3000 := e255 ▸ hW253.1 9
                have bfk2_252 : (0 : Int) ≤ fk2_252 ∧ fk2_252 ≤ 6 := e256 ▸ hW253.1 16
                refine .inl ⟨rfl, ?_⟩
                rcases q257 with ⟨a267, a268, a269, a270, a271⟩ | ⟨a272, a273⟩
                · have _q : True := trivial
                  have b274 : (0 : Int) ≤ A 3 (ln2_251).toNat ∧ A 3 (ln2_251).toNat ≤ 3000 := hW.2 3 _
                  have lt275 : ln2_251 < li → A 4 (ln2_26).toNat < A 3 (ln2_251).toNat := fun hh => LT_nx (LT_ext (((hF254.1 3 rfl).trans ((hF199.1 3 rfl).trans ((hF167.1 3 rfl).trans ((hF140.1 3 rfl).trans ((hF36.1 3 rfl).trans (hFx.1 3 rfl))))))) (((hF254.2 3 rfl).trans ((hF199.2 3 rfl).trans ((hF167.2 3 rfl).trans ((hF140.2 3 rfl).trans (((congrFun eA118 3).trans (uA_ne (by decide))).trans ((hF36.2 3 rfl).trans (hFx.2 3 rfl)))))))) (((hF254.2 4 rfl).trans ((hF199.2 4 rfl).trans ((hF167.2 4 rfl).trans ((hF140.2 4 rfl).trans (((congrFun eA118 4).trans (uA_ne (by decide))).trans ((hF36.2 4 rfl).trans (hFx.2 4 rfl)))))))) i_LT) (show G249 3 = li from ((hF254.1 3 rfl).trans ((hF199.1 3 rfl).trans ((hF167.1 3 rfl).trans ((hF140.1 3 rfl).trans ((hF36.1 3 rfl).trans ((hFx.1 3 rfl).trans (e_li)))))))) (show A250 4 (ln2_26).toNat = A 4 (ln2_26).toNat from (congrFun ((hF254.2 4 rfl).trans ((hF199.2 4 rfl).trans ((hF167.2 4 rfl).trans ((hF140.2 4 rfl).trans (((congrFun eA118 4).trans (uA_ne (by decide))).trans ((hF36.2 4 rfl).trans (hFx.2 4 rfl))))))) _)) (show A250 3 (ln2_251).toNat = A 3 (ln2_251).toNat from (congrFun ((hF254.2 3 rfl).trans ((hF199.2 3 rfl).trans ((hF167.2 3 rfl).trans ((hF140.2 3 rfl).trans (((congrFun eA118 3).trans (uA_ne (by decide))).trans ((hF36.2 3 rfl).trans (hFx.2 3 rfl))))))) _)) (show ln2_251 = ln2_26 + 1 by omega) (by omega) hh
                  refine jx_ld (pc' := 328) (l' := L) (st' := [.ref 66]) rfl (jl_aloadn gL_0) ?_
                  refine jx_ld (pc' := 329) (l' := L) (st' := [.int (i32 (p)), .ref 66]) rfl (jl_iloadn gL_1) ?_
                  refine jx_vr (pc' := 332) (as := [.int (i32 (p))]) (st := []) rfl rfl rfl rfl ⟨rfl, rfl, Nat.le_of_ble_eq_true rfl⟩ rfl rfl (c_show (dd := d) (hd := by omega) (hW := hW253) (s := p) (vi := vi) (e_vi := show G249 29 = vi from ((hF254.1 29 rfl).trans ((hF199.1 29 rfl).trans ((hF167.1 29 rfl).trans (hF140.1 29 rfl)))))  (h_s := ⟨(Int.le_trans (by decide : (-2147483648 : Int) ≤ -2147483648) rx_p.1), (Int.le_trans rx_p.2 (by decide : (2147483647 : Int) ≤ 2147483647))⟩)  (p_0 := by omega) (p_1 := by omega)) (fun o V' hq => ?_)
                  obtain ⟨G276, A277, vi2_278, sv2_279, rfl, rfl, hW280, hF281, hQ282, e283, e284, p285, p286, -⟩ := hq
                  have hF288 := Fr_tr hF258 hF281 (Fr_sub (by decide)) (Fr_sub (by decide))
                  have hP289 := Pf_f hP259 hF281 (by decide)
                  have hS290 := Fx_f hS260 hF281 (by decide)
                  have hV291 := Fx_tr hV261 hQ282 (by omega)
                  have hK292 := Fx_f hK262 hF281 (by decide)
                  have sf293 : wM A277 (sy + 1) (many) := wM_fx (Sg_fr (sb := sy + 1 + many) hF281 (by decide)) (by omega) (by omega) sf263
                  have sf294 : wP A277 (sy2_30) pb (18) (Vd Vs (sy + 1) sy1) (r25) (nd) (nd2_29) (sy1) (sy2_30) := wP_ag (Sg_fr hF281 (by decide)) (Qg_fr hF281 (by decide)) (by omega) (by omega) (Ax_ag (Ag_fr hF281 (by decide))) sf264
                  have sf295 : NX A277 (r25) := NX_ag (by omega) (Ag_fr hF281 (by decide)) sf265
                  have ec296 : ecn A277 (G276 31) = ec2_34 := (ecn_f (hF281.2 15 rfl) (hF281.1 31 rfl)).trans ec266
                  have bvi2_278 : (0 : Int) ≤ vi2_278 ∧ vi2_278 ≤ 202 := e283 ▸ hW280.1 29
                  have bsv2_279 : (0 : Int) ≤ sv2_279 ∧ sv2_279 ≤ 201 := e284 ▸ hW280.2 14 _
                  refine .inl ⟨rfl, ?_⟩
                  refine jx_ld (pc' := 333) (l' := L) (st' := [.ref 66]) rfl (jl_aloadn gL_0) ?_
                  refine jx_ar (pc' := 334) (st' := [.ref 66, .ref 66]) rfl rfl rfl rfl ?_
                  refine jr_get (pc' := 337) (i := 46) (v := .int (i32 (pc0))) rfl rfl (by decide) (rFv_eq (by decide) (show G276 46 = pc0 from ((hF281.1 46 rfl).trans ((hF254.1 46 rfl).trans ((hF199.1 46 rfl).trans ((hF167.1 46 rfl).trans ((hF140.1 46 rfl).trans ((hF36.1 46 rfl).trans (fx_46))))))))) rfl ?_
                  refine jx_ar (pc' := 338) (st' := [.int (i32 (1)), .int (i32 (pc0)), .ref 66]) rfl rfl rfl rfl ?_
                  refine jx_add (pc' := 339) rfl rfl ?_
                  refine jr_put (pc' := 342) (i := 46) (z := (pc0 + 1)) rfl rfl (by decide) rfl rfl rfl rfl rfl rfl ?_
                  have hW297 : Wk (uG G276 46 ((pc0 + 1))) A277 := Wk_g hW280 (show (0 : Int) ≤ (pc0 + 1) by omega) (show (pc0 + 1) ≤ (24 : Int) by omega)
                  have hF298 := Fr_g (z := (pc0 + 1)) (i := 46) hF288 (by decide)
                  have ec299 : ecn A277 ((uG G276 46 ((pc0 + 1))) 31) = ec2_34 := ec296
                  refine jx_rt (v := none) rfl rfl rfl rfl rfl rfl ?_
                  exact ⟨_, _, ln2_251, at2_195, fk2_252, nd2_29, sy2_30, na2_31, vi2_278, A 3 (ln2_251).toNat, (pc0 + 1), ec2_34, rfl, rfl, hW297, hF298, hP289, hS290, hV291, hK292, ((hF281.1 9 rfl).trans (e255)), ((hF281.1 10 rfl).trans ((hF254.1 10 rfl).trans (e200))), ((hF281.1 16 rfl).trans (e256)), ((hF281.1 31 rfl).trans ((hF254.1 31 rfl).trans ((hF199.1 31 rfl).trans ((hF167.1 31 rfl).trans ((hF140.1 31 rfl).trans (e44)))))), ((hF281.1 19 rfl).trans ((hF254.1 19 rfl).trans ((hF199.1 19 rfl).trans ((hF167.1 19 rfl).trans ((hF140.1 19 rfl).trans (e45)))))), ((hF281.1 28 rfl).trans ((hF254.1 28 rfl).trans ((hF199.1 28 rfl).trans ((hF167.1 28 rfl).trans ((hF140.1 28 rfl).trans (e46)))))), (e283), (congrFun ((hF281.2 3 rfl).trans ((hF254.2 3 rfl).trans ((hF199.2 3 rfl).trans ((hF167.2 3 rfl).trans ((hF140.2 3 rfl).trans (((congrFun eA118 3).trans (uA_ne (by decide))).trans ((hF36.2 3 rfl).trans (hFx.2 3 rfl)))))))) _), rfl, ec299, by omega, by omega, by omega, by omega, by first | exact Or.inr ((⟨by omega, by omega, by omega, by omega, by omega, by omega, by omega, by omega, (wQ_mk (m := many) (pb := pb) (by omega) (by omega) (wQ_fx hP289 hS290 (Fx_su hK292 (by omega)) p_8) (by omega) (by omega) (by omega) (by omega) (by omega) ((show A277 7 (sy).toNat = kp1 from (congrFun ((hF281.2 7 rfl).trans ((hF254.2 7 rfl).trans ((hF199.2 7 rfl).trans ((hF167.2 7 rfl).trans ((hF140.2 7 rfl).trans ((congrFun eA118 7).trans (uA_ne (by decide)))))))) _).trans (k65)).trans (by omega : kp1 = 14)) ((show A277 12 (sy).toNat = np1 from (congrFun ((hF281.2 12 rfl).trans ((hF254.2 12 rfl).trans ((hF199.2 12 rfl).trans ((hF167.2 12 rfl).trans ((hF140.2 12 rfl).trans ((congrFun eA118 12).trans (uA_ne (by decide)))))))) _).trans (k66)).trans (by omega : np1 = pc0)) ((show A277 29 (pc0).toNat = pp1 from (congrFun ((hF281.2 29 rfl).trans ((hF254.2 29 rfl).trans ((hF199.2 29 rfl).trans ((hF167.2 29 rfl).trans ((hF140.2 29 rfl).trans (((congrFun eA118 29).trans (uA_ne (by decide))).trans (hF36.2 29 rfl))))))) _).trans (ex_pp1)).trans (by omega : pp1 = sy + 1)) ((show A277 30 (pc0).toNat = mp1 from (congrFun ((hF281.2 30 rfl).trans ((hF254.2 30 rfl).trans ((hF199.2 30 rfl).trans ((hF167.2 30 rfl).trans ((hF140.2 30 rfl).trans (((congrFun eA118 30).trans (uA_ne (by decide))).trans (hF36.2 30 rfl))))))) _).trans (ex_mp1)).trans (by omega : mp1 = many)) (show A277 31 (pc0).toNat = r25 from (congrFun ((hF281.2 31 rfl).trans ((hF254.2 31 rfl).trans ((hF199.2 31 rfl).trans ((hF167.2 31 rfl).trans (hF140.2 31 rfl))))) _).trans (q121)) sf293 (VT_fx hS290 (by omega) p_9) (by omega) sf294), (SV_sw (SV_show (w := sy2_30) i_SV e_vi (show (uG G276 46 ((pc0 + 1))) 29 = vi2_278 from (e283)) (by omega) hV291 ((show A277 14 (vi).toNat = sv2_279 from (e284)).trans (by omega : sv2_279 = sy)) (by omega) (by omega) (by omega) (by omega)) (show (uG G276 46 ((pc0 + 1))) 29 = vi2_278 from (e283))), (PQ_proc (s1 := sy2_30) i_PQ hS290 (by omega) (by omega) (Fx_su hK292 (by omega)) (by omega) (by omega) (by omega) (((show A277 12 (sy).toNat = np1 from (congrFun ((hF281.2 12 rfl).trans ((hF254.2 12 rfl).trans ((hF199.2 12 rfl).trans ((hF167.2 12 rfl).trans ((hF140.2 12 rfl).trans ((congrFun eA118 12).trans (uA_ne (by decide)))))))) _).trans (k66)).trans (by omega : np1 = pc0)).trans (by omega)) (by rw [show pb = pc0 by omega, ((show A277 30 (pc0).toNat = mp1 from (congrFun ((hF281.2 30 rfl).trans ((hF254.2 30 rfl).trans ((hF199.2 30 rfl).trans ((hF167.2 30 rfl).trans ((hF140.2 30 rfl).trans (((congrFun eA118 30).trans (uA_ne (by decide))).trans (hF36.2 30 rfl))))))) _).trans (ex_mp1)).trans (by omega : mp1 = many))]; omega) (by rw [show pb = pc0 by omega, ((show A277 30 (pc0).toNat = mp1 from (congrFun ((hF281.2 30 rfl).trans ((hF254.2 30 rfl).trans ((hF199.2 30 rfl).trans ((hF167.2 30 rfl).trans ((hF140.2 30 rfl).trans (((congrFun eA118 30).trans (uA_ne (by decide))).trans (hF36.2 30 rfl))))))) _).trans (ex_mp1)).trans (by omega : mp1 = many))]; omega) (by rw [show pb = pc0 by omega]; exact ((show A277 29 (pc0).toNat = pp1 from (congrFun ((hF281.2 29 rfl).trans ((hF254.2 29 rfl).trans ((hF199.2 29 rfl).trans ((hF167.2 29 rfl).trans ((hF140.2 29 rfl).trans (((congrFun eA118 29).trans (uA_ne (by decide))).trans (hF36.2 29 rfl))))))) _).trans (ex_pp1)).trans (by omega : pp1 = sy + 1))) (by rw [show pb = pc0 by omega, ((show A277 30 (pc0).toNat = mp1 from (congrFun ((hF281.2 30 rfl).trans ((hF254.2 30 rfl).trans ((hF199.2 30 rfl).trans ((hF167.2 30 rfl).trans ((hF140.2 30 rfl).trans (((congrFun eA118 30).trans (uA_ne (by decide))).trans (hF36.2 30 rfl))))))) _).trans (ex_mp1)).trans (by omega : mp1 = many))]; omega) (by rw [show pb = pc0 by omega, ((show A277 30 (pc0).toNat = mp1 from (congrFun ((hF281.2 30 rfl).trans ((hF254.2 30 rfl).trans ((hF199.2 30 rfl).trans ((hF167.2 30 rfl).trans ((hF140.2 30 rfl).trans (((congrFun eA118 30).trans (uA_ne (by decide))).trans (hF36.2 30 rfl))))))) _).trans (ex_mp1)).trans (by omega : mp1 = many))]; exact sf293) hvb), (VT_u (VT_fx hS290 (by omega) p_9) (by omega) (by omega) ((show A277 7 (sy).toNat = kp1 from (congrFun ((hF281.2 7 rfl).trans ((hF254.2 7 rfl).trans ((hF199.2 7 rfl).trans ((hF167.2 7 rfl).trans ((hF140.2 7 rfl).trans ((congrFun eA118 7).trans (uA_ne (by decide)))))))) _).trans (k65)).trans (by omega : kp1 = 14))), by omega⟩))⟩
                · have _q : True := trivial
                  exact c_readProc_w_at_327p (X := X) (d := d) (Vs := Vs) (sb := sb) (pb := pb) (hvb := hvb) (c0 := c0) (c1 := c1) (G := G) (A := A) (T := T) (ln := ln) (li := li) (at0 := at0) (fk := fk) (nd := nd) (sy := sy) (na := na) (vi := vi) (le := le) (op0 := op0) (tk0 := tk0) (pc0 := pc0) (ec := ec) (hd := hd) (hW := hW) (e_ln := e_ln) (e_li := e_li) (e_at0 := e_at0) (e_fk := e_fk) (e_nd := e_nd) (e_sy := e_sy) (e_na := e_na) (e_vi := e_vi) (e_le := e_le) (e_op0 := e_op0) (e_tk0 := e_tk0) (e_pc0 := e_pc0) (e_ec := e_ec) (i_LT := i_LT) (i_SV := i_SV) (i_PQ := i_PQ) (p_0 := p_0) (p_1 := p_1) (p_2 := p_2) (p_3 := p_3) (p_4 := p_4) (p_5 := p_5) (p_6 := p_6) (p_7 := p_7) (p_8 := p_8) (p_9 := p_9) L G249 A250 (p) (ln2_251) (fk2_252) (sy2_30) (na2_31) (ec2_34) gL_0 gL_1 hW253 hF258 hP259 hS260 hV261 hK262 ((e255)) ((e256)) (((hF254.1 19 rfl).trans ((hF199.1 19 rfl).trans ((hF167.1 19 rfl).trans ((hF140.1 19 rfl).trans (e45)))))) (((hF254.1 28 rfl).trans ((hF199.1 28 rfl).trans ((hF167.1 28 rfl).trans ((hF140.1 28 rfl).trans (e46)))))) (ec266) (((hF254.1 29 rfl).trans ((hF199.1 29 rfl).trans ((hF167.1 29 rfl).trans (hF140.1 29 rfl))))) (((hF254.1 46 rfl).trans ((hF199.1 46 rfl).trans ((hF167.1 46 rfl).trans ((hF140.1 46 rfl).trans ((hF36.1 46 rfl).trans (fx_46))))))) (by omega) (by omega) (by omega) (by omega) (by omega) (by omega) (by omega) (by omega)
            · have _q : True := trivial
              refine jx_vr (pc' := 323) (as := [.int (i32 (0))]) (st := []) rfl rfl rfl rfl ⟨rfl, rfl, Nat.le_of_ble_eq_true rfl⟩ rfl rfl (c_need (dd := d) (hd := by omega) (hW := hW166) (g := 0) (ln := ln2_26) (e_ln := show G161 9 = ln2_26 from ((hF167.1 9 rfl).trans ((hF140.1 9 rfl).trans (e41)))) (le := A 4 (ln2_26).toNat) (e_le := show A162 4 (ln2_26).toNat = A 4 (ln2_26).toNat from (congrFun ((hF167.2 4 rfl).trans ((hF140.2 4 rfl).trans (((congrFun eA118 4).trans (uA_ne (by decide))).trans ((hF36.2 4 rfl).trans (hFx.2 4 rfl))))) _)) (at0 := at2_163) (e_at0 := show G161 10 = at2_163 from (e168)) (fk := fk2_138) (e_fk := show G161 16 = fk2_138 from ((hF167.1 16 rfl).trans (e142))) (tk0 := tk2_164) (e_tk0 := show G161 11 = tk2_164 from (e169))  (h_g := ⟨(by decide), (by decide)⟩)  (p_0 := by omega)) (fun o V' hq => ?_)
              obtain ⟨G300, A301, at2_302, tk2_303, fk2_304, rfl, rfl, hW305, hF306, e307, e308, e309, p310, p311, q312⟩ := hq
              have hF313 := Fr_tr hF176 hF306 (Fr_sub (by decide)) (Fr_sub (by decide))
              have hP314 := Pf_f hP177 hF306 (by decide)
              have hS315 := Fx_f hS178 hF306 (by decide)
              have hV316 := Fx_f hV179 hF306 (by decide)
              have hK317 := Fx_f hK180 hF306 (by decide)
              have sf318 : wM A301 (sy + 1) (many) := wM_fx (Sg_fr (sb := sy + 1 + many) hF306 (by decide)) (by omega) (by omega) sf181
              have sf319 : wP A301 (sy2_30) pb (18) (Vd Vs (sy + 1) sy1) (r25) (nd) (nd2_29) (sy1) (sy2_30) := wP_ag (Sg_fr hF306 (by decide)) (Qg_fr hF306 (by decide)) (by omega) (by omega) (Ax_ag (Ag_fr hF306 (by decide))) sf182
              have sf320 : NX A301 (r25) := NX_ag (by omega) (Ag_fr hF306 (by decide)) sf183
              have ec321 : ecn A301 (G300 31) = ec2_34 := (ecn_f (hF306.2 15 rfl) (hF306.1 31 rfl)).trans ec184
              have bat2_302 : (0 : Int) ≤ at2_302 ∧ at2_302 ≤ 3002 := e307 ▸ hW305.1 10
              have ztk2_303 := tz_b tk2_303
              have btk2_303 : (0 : Int) ≤ tk2_303 ∧ tk2_303 ≤ 5 := e308 ▸ hW305.1 11
              have bfk2_304 : (0 : Int) ≤ fk2_304 ∧ fk2_304 ≤ 6 := e309 ▸ hW305.1 16
              refine .inl ⟨rfl, ?_⟩
              rcases q312 with ⟨a322, a323, a324, a325⟩ | ⟨a326, a327, a328, a329⟩
              · have _q : True := trivial
                refine jx_ld (pc' := 324) (l' := L) (st' := [.ref 66]) rfl (jl_aloadn gL_0) ?_
                refine jx_vr (pc' := 327) (as := []) (st := []) rfl rfl rfl rfl ⟨rfl, rfl, Nat.le_of_ble_eq_true rfl⟩ rfl rfl (c_endLine (dd := d) (hd := by omega) (hW := hW305)  (ln := ln2_26) (e_ln := show G300 9 = ln2_26 from ((hF306.1 9 rfl).trans ((hF167.1 9 rfl).trans ((hF140.1 9 rfl).trans (e41))))) (li := li) (e_li := show G300 3 = li from ((hF306.1 3 rfl).trans ((hF167.1 3 rfl).trans ((hF140.1 3 rfl).trans ((hF36.1 3 rfl).trans ((hFx.1 3 rfl).trans (e_li))))))) (fk := fk2_304) (e_fk := show G300 16 = fk2_304 from (e309)) (tk0 := tk2_303) (e_tk0 := show G300 11 = tk2_303 from (e308))    (p_0 := by omega)) (fun o V' hq => ?_)
                obtain ⟨G330, A331, ln2_332, fk2_333, rfl, rfl, hW334, hF335, e336, e337, q338⟩ := hq
                have hF339 := Fr_tr hF313 hF335 (Fr_sub (by decide)) (Fr_sub (by decide))
                have hP340 := Pf_f hP314 hF335 (by decide)
                have hS341 := Fx_f hS315 hF335 (by decide)
                have hV342 := Fx_f hV316 hF335 (by decide)
                have hK343 := Fx_f hK317 hF335 (by decide)
                have sf344 : wM A331 (sy + 1) (many) := wM_fx (Sg_fr (sb := sy + 1 + many) hF335 (by decide)) (by omega) (by omega) sf318
                have sf345 : wP A331 (sy2_30) pb (18) (Vd Vs (sy + 1) sy1) (r25) (nd) (nd2_29) (sy1) (sy2_30) := wP_ag (Sg_fr hF335 (by decide)) (Qg_fr hF335 (by decide)) (by omega) (by omega) (Ax_ag (Ag_fr hF335 (by decide))) sf319
                have sf346 : NX A331 (r25) := NX_ag (by omega) (Ag_fr hF335 (by decide)) sf320
                have ec347 : ecn A331 (G330 31) = ec2_34 := (ecn_f (hF335.2 15 rfl) (hF335.1 31 rfl)).trans ec321
                have bln2_332 : (0 : Int) ≤ ln2_332 ∧ ln2_332 ≤ 3000 := e336 ▸ hW334.1 9
                have bfk2_333 : (0 : Int) ≤ fk2_333 ∧ fk2_333 ≤ 6 := e337 ▸ hW334.1 16
                refine .inl ⟨rfl, ?_⟩
                rcases q338 with ⟨a348, a349, a350, a351, a352⟩ | ⟨a353, a354⟩
                · have _q : True := trivial
                  exfalso
                  omega
                · have _q : True := trivial
                  exact c_readProc_w_at_327p (X := X) (d := d) (Vs := Vs) (sb := sb) (pb := pb) (hvb := hvb) (c0 := c0) (c1 := c1) (G := G) (A := A) (T := T) (ln := ln) (li := li) (at0 := at0) (fk := fk) (nd := nd) (sy := sy) (na := na) (vi := vi) (le := le) (op0 := op0) (tk0 := tk0) (pc0 := pc0) (ec := ec) (hd := hd) (hW := hW) (e_ln := e_ln) (e_li := e_li) (e_at0 := e_at0) (e_fk := e_fk) (e_nd := e_nd) (e_sy := e_sy) (e_na := e_na) (e_vi := e_vi) (e_le := e_le) (e_op0 := e_op0) (e_tk0 := e_tk0) (e_pc0 := e_pc0) (e_ec := e_ec) (i_LT := i_LT) (i_SV := i_SV) (i_PQ := i_PQ) (p_0 := p_0) (p_1 := p_1) (p_2 := p_2) (p_3 := p_3) (p_4 := p_4) (p_5 := p_5) (p_6 := p_6) (p_7 := p_7) (p_8 := p_8) (p_9 := p_9) L G330 A331 (p) (ln2_332) (fk2_333) (sy2_30) (na2_31) (ec2_34) gL_0 gL_1 hW334 hF339 hP340 hS341 hV342 hK343 ((e336)) ((e337)) (((hF335.1 19 rfl).trans ((hF306.1 19 rfl).trans ((hF167.1 19 rfl).trans ((hF140.1 19 rfl).trans (e45)))))) (((hF335.1 28 rfl).trans ((hF306.1 28 rfl).trans ((hF167.1 28 rfl).trans ((hF140.1 28 rfl).trans (e46)))))) (ec347) (((hF335.1 29 rfl).trans ((hF306.1 29 rfl).trans ((hF167.1 29 rfl).trans (hF140.1 29 rfl))))) (((hF335.1 46 rfl).trans ((hF306.1 46 rfl).trans ((hF167.1 46 rfl).trans ((hF140.1 46 rfl).trans ((hF36.1 46 rfl).trans (fx_46))))))) (by omega) (by omega) (by omega) (by omega) (by omega) (by omega) (by omega) (by omega)
              · have _q : True := trivial
                exfalso
                omega
        · have _q : True := trivial
          refine jx_if_eq (pc' := 309) (tg := 327) rfl rfl rfl (by decide) (by decide) (fun h355 => ?_) (fun h355 => ?_)
          · have _q := h355
            exact c_readProc_w_at_327p (X := X) (d := d) (Vs := Vs) (sb := sb) (pb := pb) (hvb := hvb) (c0 := c0) (c1 := c1) (G := G) (A := A) (T := T) (ln := ln) (li := li) (at0 := at0) (fk := fk) (nd := nd) (sy := sy) (na := na) (vi := vi) (le := le) (op0 := op0) (tk0 := tk0) (pc0 := pc0) (ec := ec) (hd := hd) (hW := hW) (e_ln := e_ln) (e_li := e_li) (e_at0 := e_at0) (e_fk := e_fk) (e_nd := e_nd) (e_sy := e_sy) (e_na := e_na) (e_vi := e_vi) (e_le := e_le) (e_op0 := e_op0) (e_tk0 := e_tk0) (e_pc0 := e_pc0) (e_ec := e_ec) (i_LT := i_LT) (i_SV := i_SV) (i_PQ := i_PQ) (p_0 := p_0) (p_1 := p_1) (p_2 := p_2) (p_3 := p_3) (p_4 := p_4) (p_5 := p_5) (p_6 := p_6) (p_7 := p_7) (p_8 := p_8) (p_9 := p_9) L G135 A136 (p) (ln2_26) (fk2_138) (sy2_30) (na2_31) (ec2_34) gL_0 gL_1 hW139 hF144 hP145 hS146 hV147 hK148 (((hF140.1 9 rfl).trans (e41))) ((e142)) (((hF140.1 19 rfl).trans (e45))) (((hF140.1 28 rfl).trans (e46))) (ec152) ((hF140.1 29 rfl)) (((hF140.1 46 rfl).trans ((hF36.1 46 rfl).trans (fx_46)))) (by omega) (by omega) (by omega) (by omega) (by omega) (by omega) (by omega) (by omega)
          · have _q := h355
            exact absurd h355 (by omega)
    · have _q := h22
      refine jx_ld (pc' := 260) (l' := L) (st' := [.ref 66]) rfl (jl_aloadn gL_0) ?_
      refine jx_ld (pc' := 261) (l' := L) (st' := [.ref 66, .ref 66]) rfl (jl_aloadn gL_0) ?_
      refine jr_get (pc' := 264) (i := 47) (v := .ref 96) rfl rfl (by decide) rfl rfl ?_
      refine jx_ld (pc' := 265) (l' := L) (st' := [.ref 66, .ref 96, .ref 66]) rfl (jl_aloadn gL_0) ?_
      refine jr_get (pc' := 268) (i := 46) (v := .int (i32 (pc0))) rfl rfl (by decide) (rFv_eq (by decide) (show Gx 46 = pc0 from (fx_46))) rfl ?_
      refine jr_ldv (pc' := 269) (i := 29) (m := 25) (z := pc0) (y := pp1) rfl (by decide) rfl (by decide) (Int.le_trans (by decide : (0 : Int) ≤ 0) b_pc0.1) (Int.lt_of_le_of_lt b_pc0.2 (by decide : (24 : Int) < ((25 : Nat) : Int))) rfl (show Ax 29 (pc0).toNat = pp1 from (ex_pp1)) ?_
      refine jx_ld (pc' := 271) (l' := L) (st' := [.int (i32 (kk)), .int (i32 (pp1)), .ref 66]) rfl (jl_iload gL_5) ?_
      refine jx_add (pc' := 272) rfl rfl ?_
      refine jx_vr (pc' := 275) (as := [.int (i32 ((pp1 + kk)))]) (st := []) rfl rfl rfl rfl ⟨rfl, rfl, Nat.le_of_ble_eq_true rfl⟩ rfl rfl (c_show (dd := d) (hd := by omega) (hW := hWx) (s := (pp1 + kk)) (vi := vi1) (e_vi := show Gx 29 = vi1 from (ex_vi1))  (h_s := ⟨(by omega), (by omega)⟩)  (p_0 := by omega) (p_1 := by omega)) (fun o V' hq => ?_)
      obtain ⟨G356, A357, vi2_358, sv2_359, rfl, rfl, hW360, hF361, hQ362, e363, e364, p365, p366, -⟩ := hq
      have hF368 := Fr_tr hFx hF361 (Fr_sub (by decide)) (Fr_sub (by decide))
      have hP369 := Pf_f hPx hF361 (by decide)
      have hS370 := Fx_f hSx hF361 (by decide)
      have hV371 := Fx_tr hVx hQ362 (by omega)
      have hK372 := Fx_f hKx hF361 (by decide)
      have sf373 : wM A357 (sy + 1) (many) := wM_fx (Sg_fr (sb := sy + 1 + many) hF361 (by decide)) (by omega) (by omega) iv_10
      have sf374 : DS A357 (vi) (vi1) (sy + 1) (sy1) := DS_fx hQ362 (by omega) iv_11
      have ec375 : ecn A357 (G356 31) = ec := (ecn_f (hF361.2 15 rfl) (hF361.1 31 rfl)).trans fx_900
      have bvi2_358 : (0 : Int) ≤ vi2_358 ∧ vi2_358 ≤ 202 := e363 ▸ hW360.1 29
      have bsv2_359 : (0 : Int) ≤ sv2_359 ∧ sv2_359 ≤ 201 := e364 ▸ hW360.2 14 _
      refine .inl ⟨rfl, ?_⟩
      refine jx_inc (pc' := 278) (l' := jSto1 L 5 (.int (i32 ((kk + (1)))))) (x := kk) rfl gL_5 (by decide) rfl rfl ?_
      obtain ⟨L376, eL376⟩ : ∃ q, q = jSto1 L 5 (.int (i32 ((kk + (1))))) := ⟨_, rfl⟩
      rw [← eL376]
      have gL376_0 : jGet L376 0 = some (.ref 66) := eL376 ▸ jg_ne (by decide) gL_0 rfl
      have gL376_4 : jGet L376 4 = some (.int (i32 (vi))) := eL376 ▸ jg_ne (by decide) gL_4 rfl
      have gL376_1 : jGet L376 1 = some (.int (i32 (p))) := eL376 ▸ jg_ne (by decide) gL_1 rfl
      have gL376_2 : jGet L376 2 = some (.int (i32 (many))) := eL376 ▸ jg_ne (by decide) gL_2 rfl
      have gL376_5 : jGet L376 5 = some (.int (i32 ((kk + (1))))) := eL376 ▸ jg_eq
      refine jx_go (tg := 253) rfl rfl ?_
      exact ih253 _ (by omega) L376 G356 A357 (p) (many) ((kk + (1))) (ln1) (at1) (fk1) (sy1) (na1) (vi2_358) (pp1) (mp1) (kp1) (np1) (lf1) rfl gL376_0 gL376_4 gL376_1 gL376_2 gL376_5 hW360 hF368 hP369 hS370 hV371 hK372 (((hF361.1 9 rfl).trans (ex_ln1))) (((hF361.1 10 rfl).trans (ex_at1))) (((hF361.1 16 rfl).trans (ex_fk1))) (((hF361.1 19 rfl).trans (ex_sy1))) (((hF361.1 28 rfl).trans (ex_na1))) ((e363)) ((congrFun (hF361.2 29 rfl) _).trans (ex_pp1)) ((congrFun (hF361.2 30 rfl) _).trans (ex_mp1)) ((congrFun (hF361.2 7 rfl) _).trans (ex_kp1)) ((congrFun (hF361.2 12 rfl) _).trans (ex_np1)) ((congrFun (hF361.2 3 rfl) _).trans (ex_lf1)) (((hF361.1 46 rfl).trans (fx_46))) (((hF361.1 31 rfl).trans (fx_31))) (ec375) (by omega) (by omega) (by omega) (by omega) (by omega) (by omega) (by omega) (by omega) (by omega) (by omega) (by omega) (by omega) (by omega) (sf373) ((DS_add sf374 (show A357 14 (vi1).toNat = sv2_359 from (e364)) (by omega) (by omega) (by omega) (by omega))) (by omega) (by omega) (by omega) (by omega) (by omega)
set_option maxRecDepth 20000 in
set_option maxHeartbeats 4000000 in
theorem c_readProc_w_at_212p {X : jX} {d : Nat} {Vs : Nat → Prop} {sb pb : Int} (hvb : VB Vs sb) {c0 c1 : jC} {G : Nat → Int} {A : Nat → Nat → Int} {T : jH} {ln li at0 fk nd sy na vi le op0 tk0 pc0 ec : Int} (hd : 8 * 18 + 81 ≤ d + 1) (hW : Wk G A) (e_ln : G 9 = ln) (e_li : G 3 = li) (e_at0 : G 10 = at0) (e_fk : G 16 = fk) (e_nd : G 31 = nd) (e_sy : G 19 = sy) (e_na : G 28 = na) (e_vi : G 29 = vi) (e_le : A 4 (ln).toNat = le) (e_op0 : G 15 = op0) (e_tk0 : G 11 = tk0) (e_pc0 : G 46 = pc0) (e_ec : ecn A (G 31) = ec) (i_LT : LT G A) (i_SV : SV Vs sb G A) (i_PQ : PQ Vs sb pb G A) (p_0 : fk = 0) (p_1 : ln < li) (p_2 : at0 ≤ le) (p_3 : nd ≤ 2 * at0 - tz tk0 + 30) (p_4 : sy ≤ na + 2) (p_5 : vi ≤ sy) (p_6 : sb ≤ sy) (p_7 : pb = pc0) (p_8 : wQ A (pc0).toNat (nd) (sy)) (p_9 : VT (Vs) A (sy)) : ∀ (L : jL) (Gx : Nat → Int) (Ax : Nat → Nat → Int) (p many at1 fk1 sy1 na1 : Int), jGet L 0 = some (.ref 66) → jGet L 1 = some (.int (i32 p)) → jGet L 2 = some (.int (i32 many)) → Wk Gx Ax → Fr [9, 10, 11, 12, 13, 14, 15, 16, 17, 18, 19, 28, 29, 31, 46] [6, 7, 8, 9, 10, 11, 12, 14, 15, 16, 17, 18, 19, 20, 21, 22, 23, 24, 28, 29, 30, 31] G A Gx Ax → Pf nd A Ax → Fx sr (sy) A Ax → Fx [14] (vi) A Ax → Fx [29, 30, 31] (pc0) A Ax → Gx 10 = at1 → Gx 16 = fk1 → Gx 19 = sy1 → Gx 28 = na1 → Gx 9 = ln → Gx 29 = vi → Gx 46 = pc0 → Gx 31 = nd → ecn Ax (Gx 31) = ec → ((-2147483648 : Int) ≤ p ∧ p ≤ 2147483647) → ((-2147483648 : Int) ≤ many ∧ many ≤ 2147483647) → (1 ≤ fk1) → (at0 ≤ at1) → (at1 ≤ le) → (sy ≤ sy1) → (sy1 ≤ na1 + 2) → (0 ≤ many ∧ many ≤ 6) → (pc0 ≤ 23) → wj X d jm308 (212, L, [], rV c0 c1 Gx Ax T) (fun o V' => ∃ (G' : Nat → Int) (A' : Nat → Nat → Int) (ln2 : Int) (at2 : Int) (fk2 : Int) (nd2 : Int) (sy2 : Int) (na2 : Int) (vi2 : Int) (lf2 : Int) (pc2 : Int) (ec2 : Int), V' = rV c0 c1 G' A' T ∧ o = .inl none ∧ Wk G' A' ∧ Fr [9, 10, 11, 12, 13, 14, 15, 16, 17, 18, 19, 28, 29, 31, 46] [6, 7, 8, 9, 10, 11, 12, 14, 15, 16, 17, 18, 19, 20, 21, 22, 23, 24, 28, 29, 30, 31] G A G' A' ∧ Pf nd A A' ∧ Fx sr (sy) A A' ∧ Fx [14] (vi) A A' ∧ Fx [29, 30, 31] (pc0) A A' ∧ G' 9 = ln2 ∧ G' 10 = at2 ∧ G' 16 = fk2 ∧ G' 31 = nd2 ∧ G' 19 = sy2 ∧ G' 28 = na2 ∧ G' 29 = vi2 ∧ A' 3 (ln2).toNat = lf2 ∧ G' 46 = pc2 ∧ ecn A' (G' 31) = ec2 ∧ (sy2 ≤ na2 + 2) ∧ (vi2 ≤ sy2) ∧ (ln ≤ ln2) ∧ (ln2 ≤ li) ∧ (((1 ≤ fk2)) ∨ ((fk2 = 0) ∧ (ln < ln2) ∧ (at0 ≤ at2) ∧ (pc2 = pc0 + 1) ∧ (nd2 - nd ≤ 2 * at2 - (2 * at0 - tz tk0)) ∧ (at2 < lf2 ∨ li ≤ ln2) ∧ (vi2 = vi + 1) ∧ (sy < sy2) ∧ (wQ A' (pc2).toNat (nd2) (sy2)) ∧ (SW (Vu Vs sy) (sy2) (vi2) A') ∧ (PQ (Vu Vs sy) (sy2) (pc2) (fun _ => 0) A') ∧ (VT (Vu Vs sy) A' (sy2)) ∧ (nd2 - nd + 5 * (ec2 - ec) ≤ 2 * at2 - (2 * at0 - tz tk0))))) := by
  have hF0 : Fr [9, 10, 11, 12, 13, 14, 15, 16, 17, 18, 19, 28, 29, 31, 46] [6, 7, 8, 9, 10, 11, 12, 14, 15, 16, 17, 18, 19, 20, 21, 22, 23, 24, 28, 29, 30, 31] G A G A := Fr_rf
  have hP0 : Pf nd A A := Pf_rf
  have hS0 : Fx sr (sy) A A := Fx_rf
  have hV0 : Fx [14] (vi) A A := Fx_rf
  have hK0 : Fx [29, 30, 31] (pc0) A A := Fx_rf
  have b_ln : (0 : Int) ≤ ln ∧ ln ≤ 3000 := e_ln ▸ hW.1 9
  have b_li : (0 : Int) ≤ li ∧ li ≤ 3000 := e_li ▸ hW.1 3
  have b_at0 : (0 : Int) ≤ at0 ∧ at0 ≤ 3002 := e_at0 ▸ hW.1 10
  have b_fk : (0 : Int) ≤ fk ∧ fk ≤ 6 := e_fk ▸ hW.1 16
  have b_nd : (0 : Int) ≤ nd ∧ nd ≤ 6999 := e_nd ▸ hW.1 31
  have b_sy : (0 : Int) ≤ sy ∧ sy ≤ 202 := e_sy ▸ hW.1 19
  have b_na : (0 : Int) ≤ na ∧ na ≤ 200 := e_na ▸ hW.1 28
  have b_vi : (0 : Int) ≤ vi ∧ vi ≤ 202 := e_vi ▸ hW.1 29
  have b_le : (0 : Int) ≤ le ∧ le ≤ 3000 := e_le ▸ hW.2 4 _
  have b_op0 : (-2147483648 : Int) ≤ op0 ∧ op0 ≤ 2147483647 := e_op0 ▸ hW.1 15
  have z_tk0 := tz_f tk0
  have b_tk0 : (0 : Int) ≤ tk0 ∧ tk0 ≤ 5 := e_tk0 ▸ hW.1 11
  have b_pc0 : (0 : Int) ≤ pc0 ∧ pc0 ≤ 24 := e_pc0 ▸ hW.1 46
  intro L Gx Ax p many at1 fk1 sy1 na1 gL_0 gL_1 gL_2 hWx hFx hPx hSx hVx hKx ex_at1 ex_fk1 ex_sy1 ex_na1 fx_9 fx_29 fx_46 fx_31 fx_900 rx_p rx_many iv_0 iv_1 iv_2 iv_3 iv_4 iv_5 iv_6
  have b_at1 : (0 : Int) ≤ at1 ∧ at1 ≤ 3002 := ex_at1 ▸ hWx.1 10
  have b_fk1 : (0 : Int) ≤ fk1 ∧ fk1 ≤ 6 := ex_fk1 ▸ hWx.1 16
  have b_sy1 : (0 : Int) ≤ sy1 ∧ sy1 ≤ 202 := ex_sy1 ▸ hWx.1 19
  have b_na1 : (0 : Int) ≤ na1 ∧ na1 ≤ 200 := ex_na1 ▸ hWx.1 28
  refine jx_ld (pc' := 213) (l' := L) (st' := [.ref 66]) rfl (jl_aloadn gL_0) ?_
  refine jr_get (pc' := 216) (i := 48) (v := .ref 97) rfl rfl (by decide) rfl rfl ?_
  refine jx_ld (pc' := 217) (l' := L) (st' := [.ref 66, .ref 97]) rfl (jl_aloadn gL_0) ?_
  refine jr_get (pc' := 220) (i := 46) (v := .int (i32 (pc0))) rfl rfl (by decide) (rFv_eq (by decide) (show Gx 46 = pc0 from (fx_46))) rfl ?_
  refine jx_ld (pc' := 221) (l' := L) (st' := [.int (i32 (many)), .int (i32 (pc0)), .ref 97]) rfl (jl_iloadn gL_2) ?_
  refine jr_st (pc' := 222) (i := 30) (m := 25) (z := pc0) (y := many) rfl (by decide) rfl (by decide) (by omega) (by omega) rfl ?_
  have hW378 : Wk Gx (uA Ax 30 (pc0).toNat (many)) := Wk_a hWx (show (0 : Int) ≤ many by omega) (show many ≤ (6 : Int) by omega)
  have hF379 := Fr_a (z := many) (k := 30) (n := (pc0).toNat) hFx (by decide)
  obtain ⟨A377, eA377⟩ : ∃ q, q = uA Ax 30 (pc0).toNat (many) := ⟨_, rfl⟩
  rw [← eA377]
  rw [← eA377] at hW378 hF379
  have q380 : A377 30 (pc0).toNat = many := by rw [eA377]; exact uA_eq
  have hP381 : Pf nd A A377 := eA377 ▸ Pf_n hPx rfl
  have hS382 : Fx sr (sy) A A377 := eA377 ▸ Fx_n hSx rfl
  have hV383 : Fx [14] (vi) A A377 := eA377 ▸ Fx_n hVx rfl
  have hK384 : Fx [29, 30, 31] (pc0) A A377 := eA377 ▸ Fx_a hKx (z := pc0) (by omega) (by omega)
  have ec385 : ecn A377 (Gx 31) = ec := (ecn_e ((congrFun eA377 15).trans (uA_ne (by decide)))).trans fx_900
  refine jx_ld (pc' := 223) (l' := L) (st' := [.ref 66]) rfl (jl_aloadn gL_0) ?_
  refine jx_ld (pc' := 224) (l' := L) (st' := [.ref 66, .ref 66]) rfl (jl_aloadn gL_0) ?_
  refine jx_ar (pc' := 226) (st' := [.int (i32 (41)), .ref 66, .ref 66]) rfl rfl rfl rfl ?_
  have b386 : (0 : Int) ≤ Gx 11 ∧ Gx 11 ≤ 5 := hWx.1 11
  have b387 : (-2147483648 : Int) ≤ Gx 13 ∧ Gx 13 ≤ 2147483647 := hWx.1 13
  refine jx_vr (pc' := 229) (as := [.int (i32 (41))]) (st := [.ref 66]) rfl rfl rfl rfl ⟨rfl, rfl, Nat.le_of_ble_eq_true rfl⟩ rfl rfl (c_is (dd := d) (hd := by omega) (hW := hW378) (k := 41) (tk := Gx 11) (e_tk := show Gx 11 = Gx 11 from rfl) (tn := Gx 13) (e_tn := show Gx 13 = Gx 13 from rfl)  (h_k := ⟨(by decide), (by decide)⟩)  ) (fun o V' hq => ?_)
  obtain ⟨r388, rfl, rfl, b389, q390⟩ := hq
  refine .inr ⟨_, rfl, ?_⟩
  rcases q390 with ⟨rfl, a391, a392, a393⟩ | rfl
  · have _q : True := trivial
    refine jx_vr (pc' := 232) (as := [.int (i32 (1))]) (st := []) rfl rfl rfl rfl ⟨rfl, rfl, Nat.le_of_ble_eq_true rfl⟩ rfl rfl (c_need (dd := d) (hd := by omega) (hW := hW378) (g := 1) (ln := ln) (e_ln := show Gx 9 = ln from (fx_9)) (le := le) (e_le := show A377 4 (ln).toNat = le from (congrFun (((congrFun eA377 4).trans (uA_ne (by decide))).trans (hFx.2 4 rfl)) _).trans (e_le)) (at0 := at1) (e_at0 := show Gx 10 = at1 from (ex_at1)) (fk := fk1) (e_fk := show Gx 16 = fk1 from (ex_fk1)) (tk0 := Gx 11) (e_tk0 := show Gx 11 = Gx 11 from rfl)  (h_g := ⟨(by decide), (by decide)⟩)  (p_0 := by omega)) (fun o V' hq => ?_)
    obtain ⟨G394, A395, at2_396, tk2_397, fk2_398, rfl, rfl, hW399, hF400, e401, e402, e403, p404, p405, q406⟩ := hq
    have hF407 := Fr_tr hF379 hF400 (Fr_sub (by decide)) (Fr_sub (by decide))
    have hP408 := Pf_f hP381 hF400 (by decide)
    have hS409 := Fx_f hS382 hF400 (by decide)
    have hV410 := Fx_f hV383 hF400 (by decide)
    have hK411 := Fx_f hK384 hF400 (by decide)
    have ec412 : ecn A395 (G394 31) = ec := (ecn_f (hF400.2 15 rfl) (hF400.1 31 rfl)).trans ec385
    have bat2_396 : (0 : Int) ≤ at2_396 ∧ at2_396 ≤ 3002 := e401 ▸ hW399.1 10
    have ztk2_397 := tz_b tk2_397
    have btk2_397 : (0 : Int) ≤ tk2_397 ∧ tk2_397 ≤ 5 := e402 ▸ hW399.1 11
    have bfk2_398 : (0 : Int) ≤ fk2_398 ∧ fk2_398 ≤ 6 := e403 ▸ hW399.1 16
    refine .inl ⟨rfl, ?_⟩
    rcases q406 with ⟨a413, a414, a415, a416⟩ | ⟨a417, a418, a419, a420⟩
    · have _q : True := trivial
      refine jx_ld (pc' := 233) (l' := L) (st' := [.ref 66]) rfl (jl_aloadn gL_0) ?_
      refine jx_vr (pc' := 236) (as := []) (st := []) rfl rfl rfl rfl ⟨rfl, rfl, Nat.le_of_ble_eq_true rfl⟩ rfl rfl (c_endLine (dd := d) (hd := by omega) (hW := hW399)  (ln := ln) (e_ln := show G394 9 = ln from ((hF400.1 9 rfl).trans (fx_9))) (li := li) (e_li := show G394 3 = li from ((hF400.1 3 rfl).trans ((hFx.1 3 rfl).trans (e_li)))) (fk := fk2_398) (e_fk := show G394 16 = fk2_398 from (e403)) (tk0 := tk2_397) (e_tk0 := show G394 11 = tk2_397 from (e402))    (p_0 := by omega)) (fun o V' hq => ?_)
      obtain ⟨G421, A422, ln2_423, fk2_424, rfl, rfl, hW425, hF426, e427, e428, q429⟩ := hq
      have hF430 := Fr_tr hF407 hF426 (Fr_sub (by decide)) (Fr_sub (by decide))
      have hP431 := Pf_f hP408 hF426 (by decide)
      have hS432 := Fx_f hS409 hF426 (by decide)
      have hV433 := Fx_f hV410 hF426 (by decide)
      have hK434 := Fx_f hK411 hF426 (by decide)
      have ec435 : ecn A422 (G421 31) = ec := (ecn_f (hF426.2 15 rfl) (hF426.1 31 rfl)).trans ec412
      have bln2_423 : (0 : Int) ≤ ln2_423 ∧ ln2_423 ≤ 3000 := e427 ▸ hW425.1 9
      have bfk2_424 : (0 : Int) ≤ fk2_424 ∧ fk2_424 ≤ 6 := e428 ▸ hW425.1 16
      refine .inl ⟨rfl, ?_⟩
      rcases q429 with ⟨a436, a437, a438, a439, a440⟩ | ⟨a441, a442⟩
      · have _q : True := trivial
        exfalso
        omega
      · have _q : True := trivial
        refine jx_ld (pc' := 237) (l' := L) (st' := [.ref 66]) rfl (jl_aloadn gL_0) ?_
        refine jx_vr (pc' := 240) (as := []) (st := []) rfl rfl rfl rfl ⟨rfl, rfl, Nat.le_of_ble_eq_true rfl⟩ rfl rfl (c_bad (dd := d) (hd := by omega) (hW := hW425)  (fk := fk2_424) (e_fk := show G421 16 = fk2_424 from (e428))    ) (fun o V' hq => ?_)
        obtain ⟨r443, rfl, rfl, b444, q445⟩ := hq
        refine .inr ⟨_, rfl, ?_⟩
        rcases q445 with ⟨rfl, a446⟩ | ⟨rfl, a447⟩
        · have _q : True := trivial
          refine jx_if_eq (pc' := 243) (tg := 244) rfl rfl rfl (by decide) (by decide) (fun h448 => ?_) (fun h448 => ?_)
          · have _q := h448
            exact absurd h448 (by omega)
          · have _q := h448
            refine jx_rt (v := none) rfl rfl rfl rfl rfl rfl ?_
            exact ⟨_, _, ln2_423, at2_396, fk2_424, nd, sy1, na1, vi, A 3 (ln2_423).toNat, pc0, ec, rfl, rfl, hW425, hF430, hP431, hS432, hV433, hK434, (e427), ((hF426.1 10 rfl).trans (e401)), (e428), ((hF426.1 31 rfl).trans ((hF400.1 31 rfl).trans (fx_31))), ((hF426.1 19 rfl).trans ((hF400.1 19 rfl).trans (ex_sy1))), ((hF426.1 28 rfl).trans ((hF400.1 28 rfl).trans (ex_na1))), ((hF426.1 29 rfl).trans ((hF400.1 29 rfl).trans (fx_29))), (congrFun ((hF426.2 3 rfl).trans ((hF400.2 3 rfl).trans (((congrFun eA377 3).trans (uA_ne (by decide))).trans (hFx.2 3 rfl)))) _), ((hF426.1 46 rfl).trans ((hF400.1 46 rfl).trans (fx_46))), ec435, by omega, by omega, by omega, by omega, by first | exact Or.inl (by omega)⟩
        · have _q : True := trivial
          exfalso
          omega
    · have _q : True := trivial
      exfalso
      omega
  · have _q : True := trivial
    refine jx_vr (pc' := 232) (as := [.int (i32 (0))]) (st := []) rfl rfl rfl rfl ⟨rfl, rfl, Nat.le_of_ble_eq_true rfl⟩ rfl rfl (c_need (dd := d) (hd := by omega) (hW := hW378) (g := 0) (ln := ln) (e_ln := show Gx 9 = ln from (fx_9)) (le := le) (e_le := show A377 4 (ln).toNat = le from (congrFun (((congrFun eA377 4).trans (uA_ne (by decide))).trans (hFx.2 4 rfl)) _).trans (e_le)) (at0 := at1) (e_at0 := show Gx 10 = at1 from (ex_at1)) (fk := fk1) (e_fk := show Gx 16 = fk1 from (ex_fk1)) (tk0 := Gx 11) (e_tk0 := show Gx 11 = Gx 11 from rfl)  (h_g := ⟨(by decide), (by decide)⟩)  (p_0 := by omega)) (fun o V' hq => ?_)
    obtain ⟨G449, A450, at2_451, tk2_452, fk2_453, rfl, rfl, hW454, hF455, e456, e457, e458, p459, p460, q461⟩ := hq
    have hF462 := Fr_tr hF379 hF455 (Fr_sub (by decide)) (Fr_sub (by decide))
    have hP463 := Pf_f hP381 hF455 (by decide)
    have hS464 := Fx_f hS382 hF455 (by decide)
    have hV465 := Fx_f hV383 hF455 (by decide)
    have hK466 := Fx_f hK384 hF455 (by decide)
    have ec467 : ecn A450 (G449 31) = ec := (ecn_f (hF455.2 15 rfl) (hF455.1 31 rfl)).trans ec385
    have bat2_451 : (0 : Int) ≤ at2_451 ∧ at2_451 ≤ 3002 := e456 ▸ hW454.1 10
    have ztk2_452 := tz_b tk2_452
    have btk2_452 : (0 : Int) ≤ tk2_452 ∧ tk2_452 ≤ 5 := e457 ▸ hW454.1 11
    have bfk2_453 : (0 : Int) ≤ fk2_453 ∧ fk2_453 ≤ 6 := e458 ▸ hW454.1 16
    refine .inl ⟨rfl, ?_⟩
    rcases q461 with ⟨a468, a469, a470, a471⟩ | ⟨a472, a473, a474, a475⟩
    · have _q : True := trivial
      refine jx_ld (pc' := 233) (l' := L) (st' := [.ref 66]) rfl (jl_aloadn gL_0) ?_
      refine jx_vr (pc' := 236) (as := []) (st := []) rfl rfl rfl rfl ⟨rfl, rfl, Nat.le_of_ble_eq_true rfl⟩ rfl rfl (c_endLine (dd := d) (hd := by omega) (hW := hW454)  (ln := ln) (e_ln := show G449 9 = ln from ((hF455.1 9 rfl).trans (fx_9))) (li := li) (e_li := show G449 3 = li from ((hF455.1 3 rfl).trans ((hFx.1 3 rfl).trans (e_li)))) (fk := fk2_453) (e_fk := show G449 16 = fk2_453 from (e458)) (tk0 := tk2_452) (e_tk0 := show G449 11 = tk2_452 from (e457))    (p_0 := by omega)) (fun o V' hq => ?_)
      obtain ⟨G476, A477, ln2_478, fk2_479, rfl, rfl, hW480, hF481, e482, e483, q484⟩ := hq
      have hF485 := Fr_tr hF462 hF481 (Fr_sub (by decide)) (Fr_sub (by decide))
      have hP486 := Pf_f hP463 hF481 (by decide)
      have hS487 := Fx_f hS464 hF481 (by decide)
      have hV488 := Fx_f hV465 hF481 (by decide)
      have hK489 := Fx_f hK466 hF481 (by decide)
      have ec490 : ecn A477 (G476 31) = ec := (ecn_f (hF481.2 15 rfl) (hF481.1 31 rfl)).trans ec467
      have bln2_478 : (0 : Int) ≤ ln2_478 ∧ ln2_478 ≤ 3000 := e482 ▸ hW480.1 9
      have bfk2_479 : (0 : Int) ≤ fk2_479 ∧ fk2_479 ≤ 6 := e483 ▸ hW480.1 16
      refine .inl ⟨rfl, ?_⟩
      rcases q484 with ⟨a491, a492, a493, a494, a495⟩ | ⟨a496, a497⟩
      · have _q : True := trivial
        exfalso
        omega
      · have _q : True := trivial
        refine jx_ld (pc' := 237) (l' := L) (st' := [.ref 66]) rfl (jl_aloadn gL_0) ?_
        refine jx_vr (pc' := 240) (as := []) (st := []) rfl rfl rfl rfl ⟨rfl, rfl, Nat.le_of_ble_eq_true rfl⟩ rfl rfl (c_bad (dd := d) (hd := by omega) (hW := hW480)  (fk := fk2_479) (e_fk := show G476 16 = fk2_479 from (e483))    ) (fun o V' hq => ?_)
        obtain ⟨r498, rfl, rfl, b499, q500⟩ := hq
        refine .inr ⟨_, rfl, ?_⟩
        rcases q500 with ⟨rfl, a501⟩ | ⟨rfl, a502⟩
        · have _q : True := trivial
          refine jx_if_eq (pc' := 243) (tg := 244) rfl rfl rfl (by decide) (by decide) (fun h503 => ?_) (fun h503 => ?_)
          · have _q := h503
            exact absurd h503 (by omega)
          · have _q := h503
            refine jx_rt (v := none) rfl rfl rfl rfl rfl rfl ?_
            exact ⟨_, _, ln2_478, at2_451, fk2_479, nd, sy1, na1, vi, A 3 (ln2_478).toNat, pc0, ec, rfl, rfl, hW480, hF485, hP486, hS487, hV488, hK489, (e482), ((hF481.1 10 rfl).trans (e456)), (e483), ((hF481.1 31 rfl).trans ((hF455.1 31 rfl).trans (fx_31))), ((hF481.1 19 rfl).trans ((hF455.1 19 rfl).trans (ex_sy1))), ((hF481.1 28 rfl).trans ((hF455.1 28 rfl).trans (ex_na1))), ((hF481.1 29 rfl).trans ((hF455.1 29 rfl).trans (fx_29))), (congrFun ((hF481.2 3 rfl).trans ((hF455.2 3 rfl).trans (((congrFun eA377 3).trans (uA_ne (by decide))).trans (hFx.2 3 rfl)))) _), ((hF481.1 46 rfl).trans ((hF455.1 46 rfl).trans (fx_46))), ec490, by omega, by omega, by omega, by omega, by first | exact Or.inl (by omega)⟩
        · have _q : True := trivial
          exfalso
          omega
    · have _q : True := trivial
      exfalso
      omega
set_option maxRecDepth 20000 in
set_option maxHeartbeats 4000000 in
theorem c_readProc_w_at_146 {X : jX} {d : Nat} {Vs : Nat → Prop} {sb pb : Int} (hvb : VB Vs sb) {c0 c1 : jC} {G : Nat → Int} {A : Nat → Nat → Int} {T : jH} {ln li at0 fk nd sy na vi le op0 tk0 pc0 ec : Int} (hd : 8 * 18 + 81 ≤ d + 1) (hW : Wk G A) (e_ln : G 9 = ln) (e_li : G 3 = li) (e_at0 : G 10 = at0) (e_fk : G 16 = fk) (e_nd : G 31 = nd) (e_sy : G 19 = sy) (e_na : G 28 = na) (e_vi : G 29 = vi) (e_le : A 4 (ln).toNat = le) (e_op0 : G 15 = op0) (e_tk0 : G 11 = tk0) (e_pc0 : G 46 = pc0) (e_ec : ecn A (G 31) = ec) (i_LT : LT G A) (i_SV : SV Vs sb G A) (i_PQ : PQ Vs sb pb G A) (p_0 : fk = 0) (p_1 : ln < li) (p_2 : at0 ≤ le) (p_3 : nd ≤ 2 * at0 - tz tk0 + 30) (p_4 : sy ≤ na + 2) (p_5 : vi ≤ sy) (p_6 : sb ≤ sy) (p_7 : pb = pc0) (p_8 : wQ A (pc0).toNat (nd) (sy)) (p_9 : VT (Vs) A (sy)) : ∀ (m : Nat) (L : jL) (Gx : Nat → Int) (Ax : Nat → Nat → Int) (p many more at1 tk1 fk1 sy1 na1 pp1 kp1 np1 : Int), (7 - many).toNat = m → jGet L 0 = some (.ref 66) → jGet L 1 = some (.int (i32 p)) → jGet L 2 = some (.int (i32 many)) → jGet L 3 = some (.int (i32 more)) → Wk Gx Ax → Fr [9, 10, 11, 12, 13, 14, 15, 16, 17, 18, 19, 28, 29, 31, 46] [6, 7, 8, 9, 10, 11, 12, 14, 15, 16, 17, 18, 19, 20, 21, 22, 23, 24, 28, 29, 30, 31] G A Gx Ax → Pf nd A Ax → Fx sr (sy) A Ax → Fx [14] (vi) A Ax → Fx [29, 30, 31] (pc0) A Ax → Gx 10 = at1 → Gx 11 = tk1 → Gx 16 = fk1 → Gx 19 = sy1 → Gx 28 = na1 → Ax 29 (pc0).toNat = pp1 → Ax 7 (sy).toNat = kp1 → Ax 12 (sy).toNat = np1 → Gx 9 = ln → Gx 29 = vi → Gx 46 = pc0 → Gx 31 = nd → ecn Ax (Gx 31) = ec → ((-2147483648 : Int) ≤ p ∧ p ≤ 2147483647) → ((-2147483648 : Int) ≤ many ∧ many ≤ 2147483647) → ((-2147483648 : Int) ≤ more ∧ more ≤ 2147483647) → (fk1 = 0) → (at0 ≤ at1) → (at1 ≤ le) → (sy1 = sy + 1 + many) → (sy1 ≤ na1 + 2) → (0 ≤ many) → (0 ≤ more ∧ more ≤ 1) → (many + more ≤ 6) → (wM Ax (sy + 1) (many)) → (kp1 = 14) → (np1 = pc0) → (pp1 = sy + 1) → (p = sy) → (pc0 ≤ 23) → wj X d jm308 (146, L, [], rV c0 c1 Gx Ax T) (fun o V' => ∃ (G' : Nat → Int) (A' : Nat → Nat → Int) (ln2 : Int) (at2 : Int) (fk2 : Int) (nd2 : Int) (sy2 : Int) (na2 : Int) (vi2 : Int) (lf2 : Int) (pc2 : Int) (ec2 : Int), V' = rV c0 c1 G' A' T ∧ o = .inl none ∧ Wk G' A' ∧ Fr [9, 10, 11, 12, 13, 14, 15, 16, 17, 18, 19, 28, 29, 31, 46] [6, 7, 8, 9, 10, 11, 12, 14, 15, 16, 17, 18, 19, 20, 21, 22, 23, 24, 28, 29, 30, 31] G A G' A' ∧ Pf nd A A' ∧ Fx sr (sy) A A' ∧ Fx [14] (vi) A A' ∧ Fx [29, 30, 31] (pc0) A A' ∧ G' 9 = ln2 ∧ G' 10 = at2 ∧ G' 16 = fk2 ∧ G' 31 = nd2 ∧ G' 19 = sy2 ∧ G' 28 = na2 ∧ G' 29 = vi2 ∧ A' 3 (ln2).toNat = lf2 ∧ G' 46 = pc2 ∧ ecn A' (G' 31) = ec2 ∧ (sy2 ≤ na2 + 2) ∧ (vi2 ≤ sy2) ∧ (ln ≤ ln2) ∧ (ln2 ≤ li) ∧ (((1 ≤ fk2)) ∨ ((fk2 = 0) ∧ (ln < ln2) ∧ (at0 ≤ at2) ∧ (pc2 = pc0 + 1) ∧ (nd2 - nd ≤ 2 * at2 - (2 * at0 - tz tk0)) ∧ (at2 < lf2 ∨ li ≤ ln2) ∧ (vi2 = vi + 1) ∧ (sy < sy2) ∧ (wQ A' (pc2).toNat (nd2) (sy2)) ∧ (SW (Vu Vs sy) (sy2) (vi2) A') ∧ (PQ (Vu Vs sy) (sy2) (pc2) (fun _ => 0) A') ∧ (VT (Vu Vs sy) A' (sy2)) ∧ (nd2 - nd + 5 * (ec2 - ec) ≤ 2 * at2 - (2 * at0 - tz tk0))))) := by
  have hF0 : Fr [9, 10, 11, 12, 13, 14, 15, 16, 17, 18, 19, 28, 29, 31, 46] [6, 7, 8, 9, 10, 11, 12, 14, 15, 16, 17, 18, 19, 20, 21, 22, 23, 24, 28, 29, 30, 31] G A G A := Fr_rf
  have hP0 : Pf nd A A := Pf_rf
  have hS0 : Fx sr (sy) A A := Fx_rf
  have hV0 : Fx [14] (vi) A A := Fx_rf
  have hK0 : Fx [29, 30, 31] (pc0) A A := Fx_rf
  have b_ln : (0 : Int) ≤ ln ∧ ln ≤ 3000 := e_ln ▸ hW.1 9
  have b_li : (0 : Int) ≤ li ∧ li ≤ 3000 := e_li ▸ hW.1 3
  have b_at0 : (0 : Int) ≤ at0 ∧ at0 ≤ 3002 := e_at0 ▸ hW.1 10
  have b_fk : (0 : Int) ≤ fk ∧ fk ≤ 6 := e_fk ▸ hW.1 16
  have b_nd : (0 : Int) ≤ nd ∧ nd ≤ 6999 := e_nd ▸ hW.1 31
  have b_sy : (0 : Int) ≤ sy ∧ sy ≤ 202 := e_sy ▸ hW.1 19
  have b_na : (0 : Int) ≤ na ∧ na ≤ 200 := e_na ▸ hW.1 28
  have b_vi : (0 : Int) ≤ vi ∧ vi ≤ 202 := e_vi ▸ hW.1 29
  have b_le : (0 : Int) ≤ le ∧ le ≤ 3000 := e_le ▸ hW.2 4 _
  have b_op0 : (-2147483648 : Int) ≤ op0 ∧ op0 ≤ 2147483647 := e_op0 ▸ hW.1 15
  have z_tk0 := tz_f tk0
  have b_tk0 : (0 : Int) ≤ tk0 ∧ tk0 ≤ 5 := e_tk0 ▸ hW.1 11
  have b_pc0 : (0 : Int) ≤ pc0 ∧ pc0 ≤ 24 := e_pc0 ▸ hW.1 46
  intro m
  induction m using Nat.strongRecOn with
  | ind m ih146 =>
    intro L Gx Ax p many more at1 tk1 fk1 sy1 na1 pp1 kp1 np1 hm gL_0 gL_1 gL_2 gL_3 hWx hFx hPx hSx hVx hKx ex_at1 ex_tk1 ex_fk1 ex_sy1 ex_na1 ex_pp1 ex_kp1 ex_np1 fx_9 fx_29 fx_46 fx_31 fx_900 rx_p rx_many rx_more iv_0 iv_1 iv_2 iv_3 iv_4 iv_5 iv_6 iv_7 iv_8 iv_9 iv_10 iv_11 iv_12 iv_13
    have b_at1 : (0 : Int) ≤ at1 ∧ at1 ≤ 3002 := ex_at1 ▸ hWx.1 10
    have z_tk1 := tz_f tk1
    have b_tk1 : (0 : Int) ≤ tk1 ∧ tk1 ≤ 5 := ex_tk1 ▸ hWx.1 11
    have b_fk1 : (0 : Int) ≤ fk1 ∧ fk1 ≤ 6 := ex_fk1 ▸ hWx.1 16
    have b_sy1 : (0 : Int) ≤ sy1 ∧ sy1 ≤ 202 := ex_sy1 ▸ hWx.1 19
    have b_na1 : (0 : Int) ≤ na1 ∧ na1 ≤ 200 := ex_na1 ▸ hWx.1 28
    refine jx_ld (pc' := 147) (l' := L) (st' := [.ref 66]) rfl (jl_aloadn gL_0) ?_
    refine jx_vr (pc' := 150) (as := []) (st := []) rfl rfl rfl rfl ⟨rfl, rfl, Nat.le_of_ble_eq_true rfl⟩ rfl rfl (c_bad (dd := d) (hd := by omega) (hW := hWx)  (fk := fk1) (e_fk := show Gx 16 = fk1 from (ex_fk1))    ) (fun o V' hq => ?_)
    obtain ⟨r504, rfl, rfl, b505, q506⟩ := hq
    refine .inr ⟨_, rfl, ?_⟩
    rcases q506 with ⟨rfl, a507⟩ | ⟨rfl, a508⟩
    · have _q : True := trivial
      exfalso
      omega
    · have _q : True := trivial
      refine jx_if_ne (pc' := 153) (tg := 212) rfl rfl rfl (by decide) (by decide) (fun h509 => ?_) (fun h509 => ?_)
      · have _q := h509
        exact absurd h509 (by omega)
      · have _q := h509
        refine jx_ld (pc' := 154) (l' := L) (st' := [.int (i32 (more))]) rfl (jl_iloadn gL_3) ?_
        refine jx_if_eq (pc' := 157) (tg := 212) rfl rfl rfl (Int.le_trans (by decide : (-2147483648 : Int) ≤ -2147483648) rx_more.1) (Int.le_trans rx_more.2 (by decide : (2147483647 : Int) ≤ 2147483647)) (fun h510 => ?_) (fun h510 => ?_)
        · have _q := h510
          refine jx_ld (pc' := 213) (l' := L) (st' := [.ref 66]) rfl (jl_aloadn gL_0) ?_
          refine jr_get (pc' := 216) (i := 48) (v := .ref 97) rfl rfl (by decide) rfl rfl ?_
          refine jx_ld (pc' := 217) (l' := L) (st' := [.ref 66, .ref 97]) rfl (jl_aloadn gL_0) ?_
          refine jr_get (pc' := 220) (i := 46) (v := .int (i32 (pc0))) rfl rfl (by decide) (rFv_eq (by decide) (show Gx 46 = pc0 from (fx_46))) rfl ?_
          refine jx_ld (pc' := 221) (l' := L) (st' := [.int (i32 (many)), .int (i32 (pc0)), .ref 97]) rfl (jl_iloadn gL_2) ?_
          refine jr_st (pc' := 222) (i := 30) (m := 25) (z := pc0) (y := many) rfl (by decide) rfl (by decide) (by omega) (by omega) rfl ?_
          have hW512 : Wk Gx (uA Ax 30 (pc0).toNat (many)) := Wk_a hWx (show (0 : Int) ≤ many by omega) (show many ≤ (6 : Int) by omega)
          have hF513 := Fr_a (z := many) (k := 30) (n := (pc0).toNat) hFx (by decide)
          obtain ⟨A511, eA511⟩ : ∃ q, q = uA Ax 30 (pc0).toNat (many) := ⟨_, rfl⟩
          rw [← eA511]
          rw [← eA511] at hW512 hF513
          have q514 : A511 30 (pc0).toNat = many := by rw [eA511]; exact uA_eq
          have hP515 : Pf nd A A511 := eA511 ▸ Pf_n hPx rfl
          have hS516 : Fx sr (sy) A A511 := eA511 ▸ Fx_n hSx rfl
          have hV517 : Fx [14] (vi) A A511 := eA511 ▸ Fx_n hVx rfl
          have hK518 : Fx [29, 30, 31] (pc0) A A511 := eA511 ▸ Fx_a hKx (z := pc0) (by omega) (by omega)
          have sf519 : wM A511 (sy + 1) (many) := wM_fx (Sg_ne (sb := sy + 1 + many) eA511 rfl) (by omega) (by omega) iv_8
          have ec520 : ecn A511 (Gx 31) = ec := (ecn_e ((congrFun eA511 15).trans (uA_ne (by decide)))).trans fx_900
          refine jx_ld (pc' := 223) (l' := L) (st' := [.ref 66]) rfl (jl_aloadn gL_0) ?_
          refine jx_ld (pc' := 224) (l' := L) (st' := [.ref 66, .ref 66]) rfl (jl_aloadn gL_0) ?_
          refine jx_ar (pc' := 226) (st' := [.int (i32 (41)), .ref 66, .ref 66]) rfl rfl rfl rfl ?_
          have b521 : (-2147483648 : Int) ≤ Gx 13 ∧ Gx 13 ≤ 2147483647 := hWx.1 13
          refine jx_vr (pc' := 229) (as := [.int (i32 (41))]) (st := [.ref 66]) rfl rfl rfl rfl ⟨rfl, rfl, Nat.le_of_ble_eq_true rfl⟩ rfl rfl (c_is (dd := d) (hd := by omega) (hW := hW512) (k := 41) (tk := tk1) (e_tk := show Gx 11 = tk1 from (ex_tk1)) (tn := Gx 13) (e_tn := show Gx 13 = Gx 13 from rfl)  (h_k := ⟨(by decide), (by decide)⟩)  ) (fun o V' hq => ?_)
          obtain ⟨r522, rfl, rfl, b523, q524⟩ := hq
          refine .inr ⟨_, rfl, ?_⟩
          rcases q524 with ⟨rfl, a525, a526, a527⟩ | rfl
          · have _q : True := trivial
            refine jx_vr (pc' := 232) (as := [.int (i32 (1))]) (st := []) rfl rfl rfl rfl ⟨rfl, rfl, Nat.le_of_ble_eq_true rfl⟩ rfl rfl (c_need (dd := d) (hd := by omega) (hW := hW512) (g := 1) (ln := ln) (e_ln := show Gx 9 = ln from (fx_9)) (le := le) (e_le := show A511 4 (ln).toNat = le from (congrFun (((congrFun eA511 4).trans (uA_ne (by decide))).trans (hFx.2 4 rfl)) _).trans (e_le)) (at0 := at1) (e_at0 := show Gx 10 = at1 from (ex_at1)) (fk := fk1) (e_fk := show Gx 16 = fk1 from (ex_fk1)) (tk0 := tk1) (e_tk0 := show Gx 11 = tk1 from (ex_tk1))  (h_g := ⟨(by decide), (by decide)⟩)  (p_0 := by omega)) (fun o V' hq => ?_)
            obtain ⟨G528, A529, at2_530, tk2_531, fk2_532, rfl, rfl, hW533, hF534, e535, e536, e537, p538, p539, q540⟩ := hq
            have hF541 := Fr_tr hF513 hF534 (Fr_sub (by decide)) (Fr_sub (by decide))
            have hP542 := Pf_f hP515 hF534 (by decide)
            have hS543 := Fx_f hS516 hF534 (by decide)
            have hV544 := Fx_f hV517 hF534 (by decide)
            have hK545 := Fx_f hK518 hF534 (by decide)
            have sf546 : wM A529 (sy + 1) (many) := wM_fx (Sg_fr (sb := sy + 1 + many) hF534 (by decide)) (by omega) (by omega) sf519
            have ec547 : ecn A529 (G528 31) = ec := (ecn_f (hF534.2 15 rfl) (hF534.1 31 rfl)).trans ec520
            have bat2_530 : (0 : Int) ≤ at2_530 ∧ at2_530 ≤ 3002 := e535 ▸ hW533.1 10
            have ztk2_531 := tz_b tk2_531
            have btk2_531 : (0 : Int) ≤ tk2_531 ∧ tk2_531 ≤ 5 := e536 ▸ hW533.1 11
            have bfk2_532 : (0 : Int) ≤ fk2_532 ∧ fk2_532 ≤ 6 := e537 ▸ hW533.1 16
            refine .inl ⟨rfl, ?_⟩
            rcases q540 with ⟨a548, a549, a550, a551⟩ | ⟨a552, a553, a554, a555⟩
            · have _q : True := trivial
              refine jx_ld (pc' := 233) (l' := L) (st' := [.ref 66]) rfl (jl_aloadn gL_0) ?_
              refine jx_vr (pc' := 236) (as := []) (st := []) rfl rfl rfl rfl ⟨rfl, rfl, Nat.le_of_ble_eq_true rfl⟩ rfl rfl (c_endLine (dd := d) (hd := by omega) (hW := hW533)  (ln := ln) (e_ln := show G528 9 = ln from ((hF534.1 9 rfl).trans (fx_9))) (li := li) (e_li := show G528 3 = li from ((hF534.1 3 rfl).trans ((hFx.1 3 rfl).trans (e_li)))) (fk := fk2_532) (e_fk := show G528 16 = fk2_532 from (e537)) (tk0 := tk2_531) (e_tk0 := show G528 11 = tk2_531 from (e536))    (p_0 := by omega)) (fun o V' hq => ?_)
              obtain ⟨G556, A557, ln2_558, fk2_559, rfl, rfl, hW560, hF561, e562, e563, q564⟩ := hq
              have hF565 := Fr_tr hF541 hF561 (Fr_sub (by decide)) (Fr_sub (by decide))
              have hP566 := Pf_f hP542 hF561 (by decide)
              have hS567 := Fx_f hS543 hF561 (by decide)
              have hV568 := Fx_f hV544 hF561 (by decide)
              have hK569 := Fx_f hK545 hF561 (by decide)
              have sf570 : wM A557 (sy + 1) (many) := wM_fx (Sg_fr (sb := sy + 1 + many) hF561 (by decide)) (by omega) (by omega) sf546
              have ec571 : ecn A557 (G556 31) = ec := (ecn_f (hF561.2 15 rfl) (hF561.1 31 rfl)).trans ec547
              have bln2_558 : (0 : Int) ≤ ln2_558 ∧ ln2_558 ≤ 3000 := e562 ▸ hW560.1 9
              have bfk2_559 : (0 : Int) ≤ fk2_559 ∧ fk2_559 ≤ 6 := e563 ▸ hW560.1 16
              refine .inl ⟨rfl, ?_⟩
              rcases q564 with ⟨a572, a573, a574, a575, a576⟩ | ⟨a577, a578⟩
              · have _q : True := trivial
                exfalso
                omega
              · have _q : True := trivial
                refine jx_ld (pc' := 237) (l' := L) (st' := [.ref 66]) rfl (jl_aloadn gL_0) ?_
                refine jx_vr (pc' := 240) (as := []) (st := []) rfl rfl rfl rfl ⟨rfl, rfl, Nat.le_of_ble_eq_true rfl⟩ rfl rfl (c_bad (dd := d) (hd := by omega) (hW := hW560)  (fk := fk2_559) (e_fk := show G556 16 = fk2_559 from (e563))    ) (fun o V' hq => ?_)
                obtain ⟨r579, rfl, rfl, b580, q581⟩ := hq
                refine .inr ⟨_, rfl, ?_⟩
                rcases q581 with ⟨rfl, a582⟩ | ⟨rfl, a583⟩
                · have _q : True := trivial
                  refine jx_if_eq (pc' := 243) (tg := 244) rfl rfl rfl (by decide) (by decide) (fun h584 => ?_) (fun h584 => ?_)
                  · have _q := h584
                    exact absurd h584 (by omega)
                  · have _q := h584
                    refine jx_rt (v := none) rfl rfl rfl rfl rfl rfl ?_
                    exact ⟨_, _, ln2_558, at2_530, fk2_559, nd, sy1, na1, vi, A 3 (ln2_558).toNat, pc0, ec, rfl, rfl, hW560, hF565, hP566, hS567, hV568, hK569, (e562), ((hF561.1 10 rfl).trans (e535)), (e563), ((hF561.1 31 rfl).trans ((hF534.1 31 rfl).trans (fx_31))), ((hF561.1 19 rfl).trans ((hF534.1 19 rfl).trans (ex_sy1))), ((hF561.1 28 rfl).trans ((hF534.1 28 rfl).trans (ex_na1))), ((hF561.1 29 rfl).trans ((hF534.1 29 rfl).trans (fx_29))), (congrFun ((hF561.2 3 rfl).trans ((hF534.2 3 rfl).trans (((congrFun eA511 3).trans (uA_ne (by decide))).trans (hFx.2 3 rfl)))) _), ((hF561.1 46 rfl).trans ((hF534.1 46 rfl).trans (fx_46))), ec571, by omega, by omega, by omega, by omega, by first | exact Or.inl (by omega)⟩
                · have _q : True := trivial
                  exfalso
                  omega
            · have _q : True := trivial
              have pz585 : at1 + tz tk2_531 ≤ at2_530 := by omega
              refine jx_ld (pc' := 233) (l' := L) (st' := [.ref 66]) rfl (jl_aloadn gL_0) ?_
              refine jx_vr (pc' := 236) (as := []) (st := []) rfl rfl rfl rfl ⟨rfl, rfl, Nat.le_of_ble_eq_true rfl⟩ rfl rfl (c_endLine (dd := d) (hd := by omega) (hW := hW533)  (ln := ln) (e_ln := show G528 9 = ln from ((hF534.1 9 rfl).trans (fx_9))) (li := li) (e_li := show G528 3 = li from ((hF534.1 3 rfl).trans ((hFx.1 3 rfl).trans (e_li)))) (fk := fk2_532) (e_fk := show G528 16 = fk2_532 from (e537)) (tk0 := tk2_531) (e_tk0 := show G528 11 = tk2_531 from (e536))    (p_0 := by omega)) (fun o V' hq => ?_)
              obtain ⟨G586, A587, ln2_588, fk2_589, rfl, rfl, hW590, hF591, e592, e593, q594⟩ := hq
              have hF595 := Fr_tr hF541 hF591 (Fr_sub (by decide)) (Fr_sub (by decide))
              have hP596 := Pf_f hP542 hF591 (by decide)
              have hS597 := Fx_f hS543 hF591 (by decide)
              have hV598 := Fx_f hV544 hF591 (by decide)
              have hK599 := Fx_f hK545 hF591 (by decide)
              have sf600 : wM A587 (sy + 1) (many) := wM_fx (Sg_fr (sb := sy + 1 + many) hF591 (by decide)) (by omega) (by omega) sf546
              have ec601 : ecn A587 (G586 31) = ec := (ecn_f (hF591.2 15 rfl) (hF591.1 31 rfl)).trans ec547
              have bln2_588 : (0 : Int) ≤ ln2_588 ∧ ln2_588 ≤ 3000 := e592 ▸ hW590.1 9
              have bfk2_589 : (0 : Int) ≤ fk2_589 ∧ fk2_589 ≤ 6 := e593 ▸ hW590.1 16
              refine .inl ⟨rfl, ?_⟩
              rcases q594 with ⟨a602, a603, a604, a605, a606⟩ | ⟨a607, a608⟩
              · have _q : True := trivial
                have b609 : (0 : Int) ≤ A 3 (ln2_588).toNat ∧ A 3 (ln2_588).toNat ≤ 3000 := hW.2 3 _
                have lt610 : ln2_588 < li → le < A 3 (ln2_588).toNat := fun hh => LT_nx (LT_ext (((hF591.1 3 rfl).trans ((hF534.1 3 rfl).trans (hFx.1 3 rfl)))) (((hF591.2 3 rfl).trans ((hF534.2 3 rfl).trans (((congrFun eA511 3).trans (uA_ne (by decide))).trans (hFx.2 3 rfl))))) (((hF591.2 4 rfl).trans ((hF534.2 4 rfl).trans (((congrFun eA511 4).trans (uA_ne (by decide))).trans (hFx.2 4 rfl))))) i_LT) (show G586 3 = li from ((hF591.1 3 rfl).trans ((hF534.1 3 rfl).trans ((hFx.1 3 rfl).trans (e_li))))) (show A587 4 (ln).toNat = le from (congrFun ((hF591.2 4 rfl).trans ((hF534.2 4 rfl).trans (((congrFun eA511 4).trans (uA_ne (by decide))).trans (hFx.2 4 rfl)))) _).trans (e_le)) (show A587 3 (ln2_588).toNat = A 3 (ln2_588).toNat from (congrFun ((hF591.2 3 rfl).trans ((hF534.2 3 rfl).trans (((congrFun eA511 3).trans (uA_ne (by decide))).trans (hFx.2 3 rfl)))) _)) (show ln2_588 = ln + 1 by omega) (by omega) hh
                refine jx_ld (pc' := 237) (l' := L) (st' := [.ref 66]) rfl (jl_aloadn gL_0) ?_
                refine jx_vr (pc' := 240) (as := []) (st := []) rfl rfl rfl rfl ⟨rfl, rfl, Nat.le_of_ble_eq_true rfl⟩ rfl rfl (c_bad (dd := d) (hd := by omega) (hW := hW590)  (fk := fk2_589) (e_fk := show G586 16 = fk2_589 from (e593))    ) (fun o V' hq => ?_)
                obtain ⟨r611, rfl, rfl, b612, q613⟩ := hq
                refine .inr ⟨_, rfl, ?_⟩
                rcases q613 with ⟨rfl, a614⟩ | ⟨rfl, a615⟩
                · have _q : True := trivial
                  exfalso
                  omega
                · have _q : True := trivial
                  refine jx_if_eq (pc' := 243) (tg := 244) rfl rfl rfl (by decide) (by decide) (fun h616 => ?_) (fun h616 => ?_)
                  · have _q := h616
                    refine jx_ld (pc' := 245) (l' := L) (st' := [.ref 66]) rfl (jl_aloadn gL_0) ?_
                    refine jr_get (pc' := 248) (i := 29) (v := .int (i32 (vi))) rfl rfl (by decide) (rFv_eq (by decide) (show G586 29 = vi from ((hF591.1 29 rfl).trans ((hF534.1 29 rfl).trans (fx_29))))) rfl ?_
                    refine jx_ld (pc' := 250) (l' := jSto1 L 4 (.int (i32 (vi)))) (st' := []) rfl rfl ?_
                    obtain ⟨L617, eL617⟩ : ∃ q, q = jSto1 L 4 (.int (i32 (vi))) := ⟨_, rfl⟩
                    rw [← eL617]
                    have gL617_0 : jGet L617 0 = some (.ref 66) := eL617 ▸ jg_ne (by decide) gL_0 rfl
                    have gL617_1 : jGet L617 1 = some (.int (i32 (p))) := eL617 ▸ jg_ne (by decide) gL_1 rfl
                    have gL617_2 : jGet L617 2 = some (.int (i32 (many))) := eL617 ▸ jg_ne (by decide) gL_2 rfl
                    have gL617_3 : jGet L617 3 = some (.int (i32 (more))) := eL617 ▸ jg_ne (by decide) gL_3 rfl
                    have gL617_4 : jGet L617 4 = some (.int (i32 (vi))) := eL617 ▸ jg_eq
                    refine jx_ar (pc' := 251) (st' := [.int (i32 (0))]) rfl rfl rfl rfl ?_
                    refine jx_ld (pc' := 253) (l' := jSto1 L617 5 (.int (i32 (0)))) (st' := []) rfl rfl ?_
                    obtain ⟨L618, eL618⟩ : ∃ q, q = jSto1 L617 5 (.int (i32 (0))) := ⟨_, rfl⟩
                    rw [← eL618]
                    have gL618_0 : jGet L618 0 = some (.ref 66) := eL618 ▸ jg_ne (by decide) gL617_0 rfl
                    have gL618_1 : jGet L618 1 = some (.int (i32 (p))) := eL618 ▸ jg_ne (by decide) gL617_1 rfl
                    have gL618_2 : jGet L618 2 = some (.int (i32 (many))) := eL618 ▸ jg_ne (by decide) gL617_2 rfl
                    have gL618_3 : jGet L618 3 = some (.int (i32 (more))) := eL618 ▸ jg_ne (by decide) gL617_3 rfl
                    have gL618_4 : jGet L618 4 = some (.int (i32 (vi))) := eL618 ▸ jg_ne (by decide) gL617_4 rfl
                    have gL618_5 : jGet L618 5 = some (.int (i32 (0))) := eL618 ▸ jg_eq
                    exact c_readProc_w_at_253 (X := X) (d := d) (Vs := Vs) (sb := sb) (pb := pb) (hvb := hvb) (c0 := c0) (c1 := c1) (G := G) (A := A) (T := T) (ln := ln) (li := li) (at0 := at0) (fk := fk) (nd := nd) (sy := sy) (na := na) (vi := vi) (le := le) (op0 := op0) (tk0 := tk0) (pc0 := pc0) (ec := ec) (hd := hd) (hW := hW) (e_ln := e_ln) (e_li := e_li) (e_at0 := e_at0) (e_fk := e_fk) (e_nd := e_nd) (e_sy := e_sy) (e_na := e_na) (e_vi := e_vi) (e_le := e_le) (e_op0 := e_op0) (e_tk0 := e_tk0) (e_pc0 := e_pc0) (e_ec := e_ec) (i_LT := i_LT) (i_SV := i_SV) (i_PQ := i_PQ) (p_0 := p_0) (p_1 := p_1) (p_2 := p_2) (p_3 := p_3) (p_4 := p_4) (p_5 := p_5) (p_6 := p_6) (p_7 := p_7) (p_8 := p_8) (p_9 := p_9) _ L618 G586 A587 (p) (many) (0) (ln2_588) (at2_530) (fk2_589) (sy1) (na1) (vi) (pp1) (many) (kp1) (np1) (A 3 (ln2_588).toNat) rfl gL618_0 gL618_4 gL618_1 gL618_2 gL618_5 hW590 hF595 hP596 hS597 hV598 hK599 ((e592)) (((hF591.1 10 rfl).trans (e535))) ((e593)) (((hF591.1 19 rfl).trans ((hF534.1 19 rfl).trans (ex_sy1)))) (((hF591.1 28 rfl).trans ((hF534.1 28 rfl).trans (ex_na1)))) (((hF591.1 29 rfl).trans ((hF534.1 29 rfl).trans (fx_29)))) ((congrFun ((hF591.2 29 rfl).trans ((hF534.2 29 rfl).trans ((congrFun eA511 29).trans (uA_ne (by decide))))) _).trans (ex_pp1)) ((congrFun ((hF591.2 30 rfl).trans (hF534.2 30 rfl)) _).trans (q514)) ((congrFun ((hF591.2 7 rfl).trans ((hF534.2 7 rfl).trans ((congrFun eA511 7).trans (uA_ne (by decide))))) _).trans (ex_kp1)) ((congrFun ((hF591.2 12 rfl).trans ((hF534.2 12 rfl).trans ((congrFun eA511 12).trans (uA_ne (by decide))))) _).trans (ex_np1)) ((congrFun ((hF591.2 3 rfl).trans ((hF534.2 3 rfl).trans (((congrFun eA511 3).trans (uA_ne (by decide))).trans (hFx.2 3 rfl)))) _)) (((hF591.1 46 rfl).trans ((hF534.1 46 rfl).trans (fx_46)))) (((hF591.1 31 rfl).trans ((hF534.1 31 rfl).trans (fx_31)))) (ec601) (by omega) (by omega) (by omega) (by omega) (by omega) (by omega) (by omega) (by omega) (by omega) (by omega) (by omega) (by omega) (by omega) (sf600) (DS_nil) (by omega) (by omega) (by omega) (by omega) (by omega)
                  · have _q := h616
                    exact absurd h616 (by omega)
              · have _q : True := trivial
                refine jx_ld (pc' := 237) (l' := L) (st' := [.ref 66]) rfl (jl_aloadn gL_0) ?_
                refine jx_vr (pc' := 240) (as := []) (st := []) rfl rfl rfl rfl ⟨rfl, rfl, Nat.le_of_ble_eq_true rfl⟩ rfl rfl (c_bad (dd := d) (hd := by omega) (hW := hW590)  (fk := fk2_589) (e_fk := show G586 16 = fk2_589 from (e593))    ) (fun o V' hq => ?_)
                obtain ⟨r619, rfl, rfl, b620, q621⟩ := hq
                refine .inr ⟨_, rfl, ?_⟩
                rcases q621 with ⟨rfl, a622⟩ | ⟨rfl, a623⟩
                · have _q : True := trivial
                  refine jx_if_eq (pc' := 243) (tg := 244) rfl rfl rfl (by decide) (by decide) (fun h624 => ?_) (fun h624 => ?_)
                  · have _q := h624
                    exact absurd h624 (by omega)
                  · have _q := h624
                    refine jx_rt (v := none) rfl rfl rfl rfl rfl rfl ?_
                    exact ⟨_, _, ln2_588, at2_530, fk2_589, nd, sy1, na1, vi, A 3 (ln2_588).toNat, pc0, ec, rfl, rfl, hW590, hF595, hP596, hS597, hV598, hK599, (e592), ((hF591.1 10 rfl).trans (e535)), (e593), ((hF591.1 31 rfl).trans ((hF534.1 31 rfl).trans (fx_31))), ((hF591.1 19 rfl).trans ((hF534.1 19 rfl).trans (ex_sy1))), ((hF591.1 28 rfl).trans ((hF534.1 28 rfl).trans (ex_na1))), ((hF591.1 29 rfl).trans ((hF534.1 29 rfl).trans (fx_29))), (congrFun ((hF591.2 3 rfl).trans ((hF534.2 3 rfl).trans (((congrFun eA511 3).trans (uA_ne (by decide))).trans (hFx.2 3 rfl)))) _), ((hF591.1 46 rfl).trans ((hF534.1 46 rfl).trans (fx_46))), ec601, by omega, by omega, by omega, by omega, by first | exact Or.inl (by omega)⟩
                · have _q : True := trivial
                  exfalso
                  omega
          · have _q : True := trivial
            refine jx_vr (pc' := 232) (as := [.int (i32 (0))]) (st := []) rfl rfl rfl rfl ⟨rfl, rfl, Nat.le_of_ble_eq_true rfl⟩ rfl rfl (c_need (dd := d) (hd := by omega) (hW := hW512) (g := 0) (ln := ln) (e_ln := show Gx 9 = ln from (fx_9)) (le := le) (e_le := show A511 4 (ln).toNat = le from (congrFun (((congrFun eA511 4).trans (uA_ne (by decide))).trans (hFx.2 4 rfl)) _).trans (e_le)) (at0 := at1) (e_at0 := show Gx 10 = at1 from (ex_at1)) (fk := fk1) (e_fk := show Gx 16 = fk1 from (ex_fk1)) (tk0 := tk1) (e_tk0 := show Gx 11 = tk1 from (ex_tk1))  (h_g := ⟨(by decide), (by decide)⟩)  (p_0 := by omega)) (fun o V' hq => ?_)
            obtain ⟨G625, A626, at2_627, tk2_628, fk2_629, rfl, rfl, hW630, hF631, e632, e633, e634, p635, p636, q637⟩ := hq
            have hF638 := Fr_tr hF513 hF631 (Fr_sub (by decide)) (Fr_sub (by decide))
            have hP639 := Pf_f hP515 hF631 (by decide)
            have hS640 := Fx_f hS516 hF631 (by decide)
            have hV641 := Fx_f hV517 hF631 (by decide)
            have hK642 := Fx_f hK518 hF631 (by decide)
            have sf643 : wM A626 (sy + 1) (many) := wM_fx (Sg_fr (sb := sy + 1 + many) hF631 (by decide)) (by omega) (by omega) sf519
            have ec644 : ecn A626 (G625 31) = ec := (ecn_f (hF631.2 15 rfl) (hF631.1 31 rfl)).trans ec520
            have bat2_627 : (0 : Int) ≤ at2_627 ∧ at2_627 ≤ 3002 := e632 ▸ hW630.1 10
            have ztk2_628 := tz_b tk2_628
            have btk2_628 : (0 : Int) ≤ tk2_628 ∧ tk2_628 ≤ 5 := e633 ▸ hW630.1 11
            have bfk2_629 : (0 : Int) ≤ fk2_629 ∧ fk2_629 ≤ 6 := e634 ▸ hW630.1 16
            refine .inl ⟨rfl, ?_⟩
            rcases q637 with ⟨a645, a646, a647, a648⟩ | ⟨a649, a650, a651, a652⟩
            · have _q : True := trivial
              refine jx_ld (pc' := 233) (l' := L) (st' := [.ref 66]) rfl (jl_aloadn gL_0) ?_
              refine jx_vr (pc' := 236) (as := []) (st := []) rfl rfl rfl rfl ⟨rfl, rfl, Nat.le_of_ble_eq_true rfl⟩ rfl rfl (c_endLine (dd := d) (hd := by omega) (hW := hW630)  (ln := ln) (e_ln := show G625 9 = ln from ((hF631.1 9 rfl).trans (fx_9))) (li := li) (e_li := show G625 3 = li from ((hF631.1 3 rfl).trans ((hFx.1 3 rfl).trans (e_li)))) (fk := fk2_629) (e_fk := show G625 16 = fk2_629 from (e634)) (tk0 := tk2_628) (e_tk0 := show G625 11 = tk2_628 from (e633))    (p_0 := by omega)) (fun o V' hq => ?_)
              obtain ⟨G653, A654, ln2_655, fk2_656, rfl, rfl, hW657, hF658, e659, e660, q661⟩ := hq
              have hF662 := Fr_tr hF638 hF658 (Fr_sub (by decide)) (Fr_sub (by decide))
              have hP663 := Pf_f hP639 hF658 (by decide)
              have hS664 := Fx_f hS640 hF658 (by decide)
              have hV665 := Fx_f hV641 hF658 (by decide)
              have hK666 := Fx_f hK642 hF658 (by decide)
              have sf667 : wM A654 (sy + 1) (many) := wM_fx (Sg_fr (sb := sy + 1 + many) hF658 (by decide)) (by omega) (by omega) sf643
              have ec668 : ecn A654 (G653 31) = ec := (ecn_f (hF658.2 15 rfl) (hF658.1 31 rfl)).trans ec644
              have bln2_655 : (0 : Int) ≤ ln2_655 ∧ ln2_655 ≤ 3000 := e659 ▸ hW657.1 9
              have bfk2_656 : (0 : Int) ≤ fk2_656 ∧ fk2_656 ≤ 6 := e660 ▸ hW657.1 16
              refine .inl ⟨rfl, ?_⟩
              rcases q661 with ⟨a669, a670, a671, a672, a673⟩ | ⟨a674, a675⟩
              · have _q : True := trivial
                exfalso
                omega
              · have _q : True := trivial
                refine jx_ld (pc' := 237) (l' := L) (st' := [.ref 66]) rfl (jl_aloadn gL_0) ?_
                refine jx_vr (pc' := 240) (as := []) (st := []) rfl rfl rfl rfl ⟨rfl, rfl, Nat.le_of_ble_eq_true rfl⟩ rfl rfl (c_bad (dd := d) (hd := by omega) (hW := hW657)  (fk := fk2_656) (e_fk := show G653 16 = fk2_656 from (e660))    ) (fun o V' hq => ?_)
                obtain ⟨r676, rfl, rfl, b677, q678⟩ := hq
                refine .inr ⟨_, rfl, ?_⟩
                rcases q678 with ⟨rfl, a679⟩ | ⟨rfl, a680⟩
                · have _q : True := trivial
                  refine jx_if_eq (pc' := 243) (tg := 244) rfl rfl rfl (by decide) (by decide) (fun h681 => ?_) (fun h681 => ?_)
                  · have _q := h681
                    exact absurd h681 (by omega)
                  · have _q := h681
                    refine jx_rt (v := none) rfl rfl rfl rfl rfl rfl ?_
                    exact ⟨_, _, ln2_655, at2_627, fk2_656, nd, sy1, na1, vi, A 3 (ln2_655).toNat, pc0, ec, rfl, rfl, hW657, hF662, hP663, hS664, hV665, hK666, (e659), ((hF658.1 10 rfl).trans (e632)), (e660), ((hF658.1 31 rfl).trans ((hF631.1 31 rfl).trans (fx_31))), ((hF658.1 19 rfl).trans ((hF631.1 19 rfl).trans (ex_sy1))), ((hF658.1 28 rfl).trans ((hF631.1 28 rfl).trans (ex_na1))), ((hF658.1 29 rfl).trans ((hF631.1 29 rfl).trans (fx_29))), (congrFun ((hF658.2 3 rfl).trans ((hF631.2 3 rfl).trans (((congrFun eA511 3).trans (uA_ne (by decide))).trans (hFx.2 3 rfl)))) _), ((hF658.1 46 rfl).trans ((hF631.1 46 rfl).trans (fx_46))), ec668, by omega, by omega, by omega, by omega, by first | exact Or.inl (by omega)⟩
                · have _q : True := trivial
                  exfalso
                  omega
            · have _q : True := trivial
              exfalso
              omega
        · have _q := h510
          refine jx_ld (pc' := 158) (l' := L) (st' := [.ref 66]) rfl (jl_aloadn gL_0) ?_
          refine jx_ld (pc' := 159) (l' := L) (st' := [.ref 66, .ref 66]) rfl (jl_aloadn gL_0) ?_
          refine jr_get (pc' := 162) (i := 47) (v := .ref 96) rfl rfl (by decide) rfl rfl ?_
          refine jx_ld (pc' := 163) (l' := L) (st' := [.ref 66, .ref 96, .ref 66]) rfl (jl_aloadn gL_0) ?_
          refine jr_get (pc' := 166) (i := 46) (v := .int (i32 (pc0))) rfl rfl (by decide) (rFv_eq (by decide) (show Gx 46 = pc0 from (fx_46))) rfl ?_
          refine jr_ldv (pc' := 167) (i := 29) (m := 25) (z := pc0) (y := pp1) rfl (by decide) rfl (by decide) (Int.le_trans (by decide : (0 : Int) ≤ 0) b_pc0.1) (Int.lt_of_le_of_lt b_pc0.2 (by decide : (24 : Int) < ((25 : Nat) : Int))) rfl (show Ax 29 (pc0).toNat = pp1 from (ex_pp1)) ?_
          refine jx_vr (pc' := 170) (as := [.int (i32 (pp1))]) (st := []) rfl rfl rfl rfl ⟨rfl, rfl, Nat.le_of_ble_eq_true rfl⟩ rfl rfl (c_readParameter (dd := d) (hd := by omega) (hW := hWx) (fr := pp1) (ln := ln) (e_ln := show Gx 9 = ln from (fx_9)) (le := le) (e_le := show Ax 4 (ln).toNat = le from (congrFun (hFx.2 4 rfl) _).trans (e_le)) (at0 := at1) (e_at0 := show Gx 10 = at1 from (ex_at1)) (fk := fk1) (e_fk := show Gx 16 = fk1 from (ex_fk1)) (tk0 := tk1) (e_tk0 := show Gx 11 = tk1 from (ex_tk1)) (sy := sy1) (e_sy := show Gx 19 = sy1 from (ex_sy1)) (na := na1) (e_na := show Gx 28 = na1 from (ex_na1))  (h_fr := ⟨(by omega), (by omega)⟩)  (p_0 := by omega) (p_1 := by omega) (p_2 := by omega) (p_3 := by omega)) (fun o V' hq => ?_)
          obtain ⟨G682, A683, at2_684, fk2_685, sy2_686, na2_687, rfl, rfl, hW688, hF689, hQ690, e691, e692, e693, e694, p695, p696, p697, p698, q699⟩ := hq
          have hF700 := Fr_tr hFx hF689 (Fr_sub (by decide)) (Fr_sub (by decide))
          have hP701 := Pf_f hPx hF689 (by decide)
          have hS702 := Fx_tr hSx hQ690 (by omega)
          have hV703 := Fx_f hVx hF689 (by decide)
          have hK704 := Fx_f hKx hF689 (by decide)
          have k705 : A683 7 (sy).toNat = kp1 := (hQ690 7 _ rfl (by omega)).trans (show Ax 7 (sy).toNat = kp1 from (ex_kp1))
          have k706 : A683 12 (sy).toNat = np1 := (hQ690 12 _ rfl (by omega)).trans (show Ax 12 (sy).toNat = np1 from (ex_np1))
          have sf707 : wM A683 (sy + 1) (many) := wM_fx hQ690 (by omega) (by omega) iv_8
          have ec708 : ecn A683 (G682 31) = ec := (ecn_f (hF689.2 15 rfl) (hF689.1 31 rfl)).trans fx_900
          have bat2_684 : (0 : Int) ≤ at2_684 ∧ at2_684 ≤ 3002 := e691 ▸ hW688.1 10
          have bfk2_685 : (0 : Int) ≤ fk2_685 ∧ fk2_685 ≤ 6 := e692 ▸ hW688.1 16
          have bsy2_686 : (0 : Int) ≤ sy2_686 ∧ sy2_686 ≤ 202 := e693 ▸ hW688.1 19
          have bna2_687 : (0 : Int) ≤ na2_687 ∧ na2_687 ≤ 200 := e694 ▸ hW688.1 28
          refine .inl ⟨rfl, ?_⟩
          rcases q699 with a709 | ⟨a710, a711, a712⟩
          · have _q : True := trivial
            refine jx_inc (pc' := 173) (l' := jSto1 L 2 (.int (i32 ((many + (1)))))) (x := many) rfl gL_2 (by decide) rfl rfl ?_
            obtain ⟨L713, eL713⟩ : ∃ q, q = jSto1 L 2 (.int (i32 ((many + (1))))) := ⟨_, rfl⟩
            rw [← eL713]
            have gL713_0 : jGet L713 0 = some (.ref 66) := eL713 ▸ jg_ne (by decide) gL_0 rfl
            have gL713_1 : jGet L713 1 = some (.int (i32 (p))) := eL713 ▸ jg_ne (by decide) gL_1 rfl
            have gL713_3 : jGet L713 3 = some (.int (i32 (more))) := eL713 ▸ jg_ne (by decide) gL_3 rfl
            have gL713_2 : jGet L713 2 = some (.int (i32 ((many + (1))))) := eL713 ▸ jg_eq
            refine jx_ld (pc' := 174) (l' := L713) (st' := [.ref 66]) rfl (jl_aloadn gL713_0) ?_
            refine jx_vr (pc' := 177) (as := []) (st := []) rfl rfl rfl rfl ⟨rfl, rfl, Nat.le_of_ble_eq_true rfl⟩ rfl rfl (c_bad (dd := d) (hd := by omega) (hW := hW688)  (fk := fk2_685) (e_fk := show G682 16 = fk2_685 from (e692))    ) (fun o V' hq => ?_)
            obtain ⟨r714, rfl, rfl, b715, q716⟩ := hq
            refine .inr ⟨_, rfl, ?_⟩
            rcases q716 with ⟨rfl, a717⟩ | ⟨rfl, a718⟩
            · have _q : True := trivial
              refine jx_if_ne (pc' := 180) (tg := 199) rfl rfl rfl (by decide) (by decide) (fun h719 => ?_) (fun h719 => ?_)
              · have _q := h719
                refine jx_ar (pc' := 200) (st' := [.int (i32 (0))]) rfl rfl rfl rfl ?_
                refine jx_ld (pc' := 201) (l' := jSto1 L713 3 (.int (i32 (0)))) (st' := []) rfl rfl ?_
                obtain ⟨L720, eL720⟩ : ∃ q, q = jSto1 L713 3 (.int (i32 (0))) := ⟨_, rfl⟩
                rw [← eL720]
                have gL720_0 : jGet L720 0 = some (.ref 66) := eL720 ▸ jg_ne (by decide) gL713_0 rfl
                have gL720_1 : jGet L720 1 = some (.int (i32 (p))) := eL720 ▸ jg_ne (by decide) gL713_1 rfl
                have gL720_2 : jGet L720 2 = some (.int (i32 ((many + (1))))) := eL720 ▸ jg_ne (by decide) gL713_2 rfl
                have gL720_3 : jGet L720 3 = some (.int (i32 (0))) := eL720 ▸ jg_eq
                refine jx_ld (pc' := 202) (l' := L720) (st' := [.int (i32 (0))]) rfl (jl_iloadn gL720_3) ?_
                refine jx_if_eq (pc' := 205) (tg := 146) rfl rfl rfl (by decide) (by decide) (fun h721 => ?_) (fun h721 => ?_)
                · have _q := h721
                  refine jx_ld (pc' := 147) (l' := L720) (st' := [.ref 66]) rfl (jl_aloadn gL720_0) ?_
                  refine jx_vr (pc' := 150) (as := []) (st := []) rfl rfl rfl rfl ⟨rfl, rfl, Nat.le_of_ble_eq_true rfl⟩ rfl rfl (c_bad (dd := d) (hd := by omega) (hW := hW688)  (fk := fk2_685) (e_fk := show G682 16 = fk2_685 from (e692))    ) (fun o V' hq => ?_)
                  obtain ⟨r722, rfl, rfl, b723, q724⟩ := hq
                  refine .inr ⟨_, rfl, ?_⟩
                  rcases q724 with ⟨rfl, a725⟩ | ⟨rfl, a726⟩
                  · have _q : True := trivial
                    refine jx_if_ne (pc' := 153) (tg := 212) rfl rfl rfl (by decide) (by decide) (fun h727 => ?_) (fun h727 => ?_)
                    · have _q := h727
                      exact c_readProc_w_at_212p (X := X) (d := d) (Vs := Vs) (sb := sb) (pb := pb) (hvb := hvb) (c0 := c0) (c1 := c1) (G := G) (A := A) (T := T) (ln := ln) (li := li) (at0 := at0) (fk := fk) (nd := nd) (sy := sy) (na := na) (vi := vi) (le := le) (op0 := op0) (tk0 := tk0) (pc0 := pc0) (ec := ec) (hd := hd) (hW := hW) (e_ln := e_ln) (e_li := e_li) (e_at0 := e_at0) (e_fk := e_fk) (e_nd := e_nd) (e_sy := e_sy) (e_na := e_na) (e_vi := e_vi) (e_le := e_le) (e_op0 := e_op0) (e_tk0 := e_tk0) (e_pc0 := e_pc0) (e_ec := e_ec) (i_LT := i_LT) (i_SV := i_SV) (i_PQ := i_PQ) (p_0 := p_0) (p_1 := p_1) (p_2 := p_2) (p_3 := p_3) (p_4 := p_4) (p_5 := p_5) (p_6 := p_6) (p_7 := p_7) (p_8 := p_8) (p_9 := p_9) L720 G682 A683 (p) ((many + (1))) (at2_684) (fk2_685) (sy2_686) (na2_687) gL720_0 gL720_1 gL720_2 hW688 hF700 hP701 hS702 hV703 hK704 ((e691)) ((e692)) ((e693)) ((e694)) (((hF689.1 9 rfl).trans (fx_9))) (((hF689.1 29 rfl).trans (fx_29))) (((hF689.1 46 rfl).trans (fx_46))) (((hF689.1 31 rfl).trans (fx_31))) (ec708) (by omega) (by omega) (by omega) (by omega) (by omega) (by omega) (by omega) (by omega) (by omega)
                    · have _q := h727
                      exact absurd h727 (by omega)
                  · have _q : True := trivial
                    exfalso
                    omega
                · have _q := h721
                  exact absurd h721 (by omega)
              · have _q := h719
                exact absurd h719 (by omega)
            · have _q : True := trivial
              exfalso
              omega
          · have _q : True := trivial
            refine jx_inc (pc' := 173) (l' := jSto1 L 2 (.int (i32 ((many + (1)))))) (x := many) rfl gL_2 (by decide) rfl rfl ?_
            obtain ⟨L728, eL728⟩ : ∃ q, q = jSto1 L 2 (.int (i32 ((many + (1))))) := ⟨_, rfl⟩
            rw [← eL728]
            have gL728_0 : jGet L728 0 = some (.ref 66) := eL728 ▸ jg_ne (by decide) gL_0 rfl
            have gL728_1 : jGet L728 1 = some (.int (i32 (p))) := eL728 ▸ jg_ne (by decide) gL_1 rfl
            have gL728_3 : jGet L728 3 = some (.int (i32 (more))) := eL728 ▸ jg_ne (by decide) gL_3 rfl
            have gL728_2 : jGet L728 2 = some (.int (i32 ((many + (1))))) := eL728 ▸ jg_eq
            refine jx_ld (pc' := 174) (l' := L728) (st' := [.ref 66]) rfl (jl_aloadn gL728_0) ?_
            refine jx_vr (pc' := 177) (as := []) (st := []) rfl rfl rfl rfl ⟨rfl, rfl, Nat.le_of_ble_eq_true rfl⟩ rfl rfl (c_bad (dd := d) (hd := by omega) (hW := hW688)  (fk := fk2_685) (e_fk := show G682 16 = fk2_685 from (e692))    ) (fun o V' hq => ?_)
            obtain ⟨r729, rfl, rfl, b730, q731⟩ := hq
            refine .inr ⟨_, rfl, ?_⟩
            rcases q731 with ⟨rfl, a732⟩ | ⟨rfl, a733⟩
            · have _q : True := trivial
              exfalso
              omega
            · have _q : True := trivial
              refine jx_if_ne (pc' := 180) (tg := 199) rfl rfl rfl (by decide) (by decide) (fun h734 => ?_) (fun h734 => ?_)
              · have _q := h734
                exact absurd h734 (by omega)
              · have _q := h734
                refine jx_ld (pc' := 181) (l' := L728) (st' := [.ref 66]) rfl (jl_aloadn gL728_0) ?_
                refine jx_ar (pc' := 183) (st' := [.int (i32 (44)), .ref 66]) rfl rfl rfl rfl ?_
                have b735 : (0 : Int) ≤ G682 11 ∧ G682 11 ≤ 5 := hW688.1 11
                have b736 : (-2147483648 : Int) ≤ G682 13 ∧ G682 13 ≤ 2147483647 := hW688.1 13
                refine jx_vr (pc' := 186) (as := [.int (i32 (44))]) (st := []) rfl rfl rfl rfl ⟨rfl, rfl, Nat.le_of_ble_eq_true rfl⟩ rfl rfl (c_is (dd := d) (hd := by omega) (hW := hW688) (k := 44) (tk := G682 11) (e_tk := show G682 11 = G682 11 from rfl) (tn := G682 13) (e_tn := show G682 13 = G682 13 from rfl)  (h_k := ⟨(by decide), (by decide)⟩)  ) (fun o V' hq => ?_)
                obtain ⟨r737, rfl, rfl, b738, q739⟩ := hq
                refine .inr ⟨_, rfl, ?_⟩
                rcases q739 with ⟨rfl, a740, a741, a742⟩ | rfl
                · have _q : True := trivial
                  refine jx_if_eq (pc' := 189) (tg := 199) rfl rfl rfl (by decide) (by decide) (fun h743 => ?_) (fun h743 => ?_)
                  · have _q := h743
                    exact absurd h743 (by omega)
                  · have _q := h743
                    refine jx_ld (pc' := 190) (l' := L728) (st' := [.int (i32 ((many + (1))))]) rfl (jl_iloadn gL728_2) ?_
                    refine jx_ar (pc' := 192) (st' := [.int (i32 (6)), .int (i32 ((many + (1))))]) rfl rfl rfl rfl ?_
                    refine jx_icmp_ge (pc' := 195) (tg := 199) rfl rfl rfl (by omega) (by omega) (by decide) (by decide) (fun h744 => ?_) (fun h744 => ?_)
                    · have _q := h744
                      refine jx_ar (pc' := 200) (st' := [.int (i32 (0))]) rfl rfl rfl rfl ?_
                      refine jx_ld (pc' := 201) (l' := jSto1 L728 3 (.int (i32 (0)))) (st' := []) rfl rfl ?_
                      obtain ⟨L745, eL745⟩ : ∃ q, q = jSto1 L728 3 (.int (i32 (0))) := ⟨_, rfl⟩
                      rw [← eL745]
                      have gL745_0 : jGet L745 0 = some (.ref 66) := eL745 ▸ jg_ne (by decide) gL728_0 rfl
                      have gL745_1 : jGet L745 1 = some (.int (i32 (p))) := eL745 ▸ jg_ne (by decide) gL728_1 rfl
                      have gL745_2 : jGet L745 2 = some (.int (i32 ((many + (1))))) := eL745 ▸ jg_ne (by decide) gL728_2 rfl
                      have gL745_3 : jGet L745 3 = some (.int (i32 (0))) := eL745 ▸ jg_eq
                      refine jx_ld (pc' := 202) (l' := L745) (st' := [.int (i32 (0))]) rfl (jl_iloadn gL745_3) ?_
                      refine jx_if_eq (pc' := 205) (tg := 146) rfl rfl rfl (by decide) (by decide) (fun h746 => ?_) (fun h746 => ?_)
                      · have _q := h746
                        exact ih146 _ (by omega) L745 G682 A683 (p) ((many + (1))) (0) (at2_684) (G682 11) (fk2_685) (sy2_686) (na2_687) (pp1) (kp1) (np1) rfl gL745_0 gL745_1 gL745_2 gL745_3 hW688 hF700 hP701 hS702 hV703 hK704 ((e691)) (rfl) ((e692)) ((e693)) ((e694)) ((congrFun (hF689.2 29 rfl) _).trans (ex_pp1)) ((k705)) ((k706)) (((hF689.1 9 rfl).trans (fx_9))) (((hF689.1 29 rfl).trans (fx_29))) (((hF689.1 46 rfl).trans (fx_46))) (((hF689.1 31 rfl).trans (fx_31))) (ec708) (by omega) (by omega) (by omega) (by omega) (by omega) (by omega) (by omega) (by omega) (by omega) (by omega) (by omega) ((wM_add sf707 a712 (by omega) (by omega))) (by omega) (by omega) (by omega) (by omega) (by omega)
                      · have _q := h746
                        exact absurd h746 (by omega)
                    · have _q := h744
                      refine jx_ar (pc' := 196) (st' := [.int (i32 (1))]) rfl rfl rfl rfl ?_
                      refine jx_go (tg := 200) rfl rfl ?_
                      refine jx_ld (pc' := 201) (l' := jSto1 L728 3 (.int (i32 (1)))) (st' := []) rfl rfl ?_
                      obtain ⟨L747, eL747⟩ : ∃ q, q = jSto1 L728 3 (.int (i32 (1))) := ⟨_, rfl⟩
                      rw [← eL747]
                      have gL747_0 : jGet L747 0 = some (.ref 66) := eL747 ▸ jg_ne (by decide) gL728_0 rfl
                      have gL747_1 : jGet L747 1 = some (.int (i32 (p))) := eL747 ▸ jg_ne (by decide) gL728_1 rfl
                      have gL747_2 : jGet L747 2 = some (.int (i32 ((many + (1))))) := eL747 ▸ jg_ne (by decide) gL728_2 rfl
                      have gL747_3 : jGet L747 3 = some (.int (i32 (1))) := eL747 ▸ jg_eq
                      refine jx_ld (pc' := 202) (l' := L747) (st' := [.int (i32 (1))]) rfl (jl_iloadn gL747_3) ?_
                      refine jx_if_eq (pc' := 205) (tg := 146) rfl rfl rfl (by decide) (by decide) (fun h748 => ?_) (fun h748 => ?_)
                      · have _q := h748
                        exact absurd h748 (by omega)
                      · have _q := h748
                        refine jx_ld (pc' := 206) (l' := L747) (st' := [.ref 66]) rfl (jl_aloadn gL747_0) ?_
                        refine jx_vr (pc' := 209) (as := []) (st := []) rfl rfl rfl rfl ⟨rfl, rfl, Nat.le_of_ble_eq_true rfl⟩ rfl rfl (c_next (dd := d) (hd := by omega) (hW := hW688)  (ln := ln) (e_ln := show G682 9 = ln from ((hF689.1 9 rfl).trans (fx_9))) (le := le) (e_le := show A683 4 (ln).toNat = le from (congrFun ((hF689.2 4 rfl).trans (hFx.2 4 rfl)) _).trans (e_le)) (at0 := at2_684) (e_at0 := show G682 10 = at2_684 from (e691))    (p_0 := by omega)) (fun o V' hq => ?_)
                        obtain ⟨G749, A750, at2_751, tk2_752, rfl, rfl, hW753, hF754, e755, e756, p757, p758, p759, -⟩ := hq
                        have hF761 := Fr_tr hF700 hF754 (Fr_sub (by decide)) (Fr_sub (by decide))
                        have hP762 := Pf_f hP701 hF754 (by decide)
                        have hS763 := Fx_f hS702 hF754 (by decide)
                        have hV764 := Fx_f hV703 hF754 (by decide)
                        have hK765 := Fx_f hK704 hF754 (by decide)
                        have sf766 : wM A750 (sy + 1) (many) := wM_fx (Sg_fr (sb := sy + 1 + many) hF754 (by decide)) (by omega) (by omega) sf707
                        have sf767 : MP A750 (sy1) := MP_fx (Sg_fr (sb := sy1 + 1) hF754 (by decide)) (by omega) (by omega) a712
                        have ec768 : ecn A750 (G749 31) = ec := (ecn_f (hF754.2 15 rfl) (hF754.1 31 rfl)).trans ec708
                        have bat2_751 : (0 : Int) ≤ at2_751 ∧ at2_751 ≤ 3002 := e755 ▸ hW753.1 10
                        have ztk2_752 := tz_b tk2_752
                        have btk2_752 : (0 : Int) ≤ tk2_752 ∧ tk2_752 ≤ 5 := e756 ▸ hW753.1 11
                        refine .inl ⟨rfl, ?_⟩
                        have pz769 : at2_684 + tz tk2_752 ≤ at2_751 := by omega
                        refine jx_go (tg := 146) rfl rfl ?_
                        exact ih146 _ (by omega) L747 G749 A750 (p) ((many + (1))) (1) (at2_751) (tk2_752) (fk2_685) (sy2_686) (na2_687) (pp1) (kp1) (np1) rfl gL747_0 gL747_1 gL747_2 gL747_3 hW753 hF761 hP762 hS763 hV764 hK765 ((e755)) ((e756)) (((hF754.1 16 rfl).trans (e692))) (((hF754.1 19 rfl).trans (e693))) (((hF754.1 28 rfl).trans (e694))) ((congrFun ((hF754.2 29 rfl).trans (hF689.2 29 rfl)) _).trans (ex_pp1)) ((congrFun (hF754.2 7 rfl) _).trans (k705)) ((congrFun (hF754.2 12 rfl) _).trans (k706)) (((hF754.1 9 rfl).trans ((hF689.1 9 rfl).trans (fx_9)))) (((hF754.1 29 rfl).trans ((hF689.1 29 rfl).trans (fx_29)))) (((hF754.1 46 rfl).trans ((hF689.1 46 rfl).trans (fx_46)))) (((hF754.1 31 rfl).trans ((hF689.1 31 rfl).trans (fx_31)))) (ec768) (by omega) (by omega) (by omega) (by omega) (by omega) (by omega) (by omega) (by omega) (by omega) (by omega) (by omega) ((wM_add sf766 sf767 (by omega) (by omega))) (by omega) (by omega) (by omega) (by omega) (by omega)
                · have _q : True := trivial
                  refine jx_if_eq (pc' := 189) (tg := 199) rfl rfl rfl (by decide) (by decide) (fun h770 => ?_) (fun h770 => ?_)
                  · have _q := h770
                    refine jx_ar (pc' := 200) (st' := [.int (i32 (0))]) rfl rfl rfl rfl ?_
                    refine jx_ld (pc' := 201) (l' := jSto1 L728 3 (.int (i32 (0)))) (st' := []) rfl rfl ?_
                    obtain ⟨L771, eL771⟩ : ∃ q, q = jSto1 L728 3 (.int (i32 (0))) := ⟨_, rfl⟩
                    rw [← eL771]
                    have gL771_0 : jGet L771 0 = some (.ref 66) := eL771 ▸ jg_ne (by decide) gL728_0 rfl
                    have gL771_1 : jGet L771 1 = some (.int (i32 (p))) := eL771 ▸ jg_ne (by decide) gL728_1 rfl
                    have gL771_2 : jGet L771 2 = some (.int (i32 ((many + (1))))) := eL771 ▸ jg_ne (by decide) gL728_2 rfl
                    have gL771_3 : jGet L771 3 = some (.int (i32 (0))) := eL771 ▸ jg_eq
                    refine jx_ld (pc' := 202) (l' := L771) (st' := [.int (i32 (0))]) rfl (jl_iloadn gL771_3) ?_
                    refine jx_if_eq (pc' := 205) (tg := 146) rfl rfl rfl (by decide) (by decide) (fun h772 => ?_) (fun h772 => ?_)
                    · have _q := h772
                      exact ih146 _ (by omega) L771 G682 A683 (p) ((many + (1))) (0) (at2_684) (G682 11) (fk2_685) (sy2_686) (na2_687) (pp1) (kp1) (np1) rfl gL771_0 gL771_1 gL771_2 gL771_3 hW688 hF700 hP701 hS702 hV703 hK704 ((e691)) (rfl) ((e692)) ((e693)) ((e694)) ((congrFun (hF689.2 29 rfl) _).trans (ex_pp1)) ((k705)) ((k706)) (((hF689.1 9 rfl).trans (fx_9))) (((hF689.1 29 rfl).trans (fx_29))) (((hF689.1 46 rfl).trans (fx_46))) (((hF689.1 31 rfl).trans (fx_31))) (ec708) (by omega) (by omega) (by omega) (by omega) (by omega) (by omega) (by omega) (by omega) (by omega) (by omega) (by omega) ((wM_add sf707 a712 (by omega) (by omega))) (by omega) (by omega) (by omega) (by omega) (by omega)
                    · have _q := h772
                      exact absurd h772 (by omega)
                  · have _q := h770
                    exact absurd h770 (by omega)
set_option maxRecDepth 20000 in
set_option maxHeartbeats 4000000 in
theorem c_readProc_w {X : jX} {dd : Nat} {Vs : Nat → Prop} {sb pb : Int} (hvb : VB Vs sb) {c0 c1 : jC} {G : Nat → Int} {A : Nat → Nat → Int} {T : jH} {ln li at0 fk nd sy na vi le op0 tk0 pc0 ec : Int} (hd : 8 * 18 + 81 ≤ dd) (hW : Wk G A) (e_ln : G 9 = ln) (e_li : G 3 = li) (e_at0 : G 10 = at0) (e_fk : G 16 = fk) (e_nd : G 31 = nd) (e_sy : G 19 = sy) (e_na : G 28 = na) (e_vi : G 29 = vi) (e_le : A 4 (ln).toNat = le) (e_op0 : G 15 = op0) (e_tk0 : G 11 = tk0) (e_pc0 : G 46 = pc0) (e_ec : ecn A (G 31) = ec) (i_LT : LT G A) (i_SV : SV Vs sb G A) (i_PQ : PQ Vs sb pb G A) (p_0 : fk = 0) (p_1 : ln < li) (p_2 : at0 ≤ le) (p_3 : nd ≤ 2 * at0 - tz tk0 + 30) (p_4 : sy ≤ na + 2) (p_5 : vi ≤ sy) (p_6 : sb ≤ sy) (p_7 : pb = pc0) (p_8 : wQ A (pc0).toNat (nd) (sy)) (p_9 : VT (Vs) A (sy)) : wk X dd 308 [.ref 66] (rV c0 c1 G A T) (fun o V' => ∃ (G' : Nat → Int) (A' : Nat → Nat → Int) (ln2 : Int) (at2 : Int) (fk2 : Int) (nd2 : Int) (sy2 : Int) (na2 : Int) (vi2 : Int) (lf2 : Int) (pc2 : Int) (ec2 : Int), V' = rV c0 c1 G' A' T ∧ o = .inl none ∧ Wk G' A' ∧ Fr [9, 10, 11, 12, 13, 14, 15, 16, 17, 18, 19, 28, 29, 31, 46] [6, 7, 8, 9, 10, 11, 12, 14, 15, 16, 17, 18, 19, 20, 21, 22, 23, 24, 28, 29, 30, 31] G A G' A' ∧ Pf nd A A' ∧ Fx sr (sy) A A' ∧ Fx [14] (vi) A A' ∧ Fx [29, 30, 31] (pc0) A A' ∧ G' 9 = ln2 ∧ G' 10 = at2 ∧ G' 16 = fk2 ∧ G' 31 = nd2 ∧ G' 19 = sy2 ∧ G' 28 = na2 ∧ G' 29 = vi2 ∧ A' 3 (ln2).toNat = lf2 ∧ G' 46 = pc2 ∧ ecn A' (G' 31) = ec2 ∧ (sy2 ≤ na2 + 2) ∧ (vi2 ≤ sy2) ∧ (ln ≤ ln2) ∧ (ln2 ≤ li) ∧ (((1 ≤ fk2)) ∨ ((fk2 = 0) ∧ (ln < ln2) ∧ (at0 ≤ at2) ∧ (pc2 = pc0 + 1) ∧ (nd2 - nd ≤ 2 * at2 - (2 * at0 - tz tk0)) ∧ (at2 < lf2 ∨ li ≤ ln2) ∧ (vi2 = vi + 1) ∧ (sy < sy2) ∧ (wQ A' (pc2).toNat (nd2) (sy2)) ∧ (SW (Vu Vs sy) (sy2) (vi2) A') ∧ (PQ (Vu Vs sy) (sy2) (pc2) (fun _ => 0) A') ∧ (VT (Vu Vs sy) A' (sy2)) ∧ (nd2 - nd + 5 * (ec2 - ec) ≤ 2 * at2 - (2 * at0 - tz tk0))))) := by
  obtain ⟨d, rfl⟩ : ∃ d, dd = d + 1 := ⟨dd - 1, by omega⟩
  refine wk_of (e := jm308) rfl (Nat.le_of_ble_eq_true rfl) ?_
  show wj X d jm308 (0, [(0, .ref 66)], [], rV c0 c1 G A T) _
  have hF0 : Fr [9, 10, 11, 12, 13, 14, 15, 16, 17, 18, 19, 28, 29, 31, 46] [6, 7, 8, 9, 10, 11, 12, 14, 15, 16, 17, 18, 19, 20, 21, 22, 23, 24, 28, 29, 30, 31] G A G A := Fr_rf
  have hP0 : Pf nd A A := Pf_rf
  have hS0 : Fx sr (sy) A A := Fx_rf
  have hV0 : Fx [14] (vi) A A := Fx_rf
  have hK0 : Fx [29, 30, 31] (pc0) A A := Fx_rf
  have b_ln : (0 : Int) ≤ ln ∧ ln ≤ 3000 := e_ln ▸ hW.1 9
  have b_li : (0 : Int) ≤ li ∧ li ≤ 3000 := e_li ▸ hW.1 3
  have b_at0 : (0 : Int) ≤ at0 ∧ at0 ≤ 3002 := e_at0 ▸ hW.1 10
  have b_fk : (0 : Int) ≤ fk ∧ fk ≤ 6 := e_fk ▸ hW.1 16
  have b_nd : (0 : Int) ≤ nd ∧ nd ≤ 6999 := e_nd ▸ hW.1 31
  have b_sy : (0 : Int) ≤ sy ∧ sy ≤ 202 := e_sy ▸ hW.1 19
  have b_na : (0 : Int) ≤ na ∧ na ≤ 200 := e_na ▸ hW.1 28
  have b_vi : (0 : Int) ≤ vi ∧ vi ≤ 202 := e_vi ▸ hW.1 29
  have b_le : (0 : Int) ≤ le ∧ le ≤ 3000 := e_le ▸ hW.2 4 _
  have b_op0 : (-2147483648 : Int) ≤ op0 ∧ op0 ≤ 2147483647 := e_op0 ▸ hW.1 15
  have z_tk0 := tz_f tk0
  have b_tk0 : (0 : Int) ≤ tk0 ∧ tk0 ≤ 5 := e_tk0 ▸ hW.1 11
  have b_pc0 : (0 : Int) ≤ pc0 ∧ pc0 ≤ 24 := e_pc0 ▸ hW.1 46
  refine jx_ld (pc' := 1) (l' := [(0, .ref 66)]) (st' := [.ref 66]) rfl (jl_aloadn rfl) ?_
  refine jx_vr (pc' := 4) (as := []) (st := []) rfl rfl rfl rfl ⟨rfl, rfl, Nat.le_of_ble_eq_true rfl⟩ rfl rfl (c_next (dd := d) (hd := by omega) (hW := hW)  (ln := ln) (e_ln := show G 9 = ln from (e_ln)) (le := le) (e_le := show A 4 (ln).toNat = le from (e_le)) (at0 := at0) (e_at0 := show G 10 = at0 from (e_at0))    (p_0 := by omega)) (fun o V' hq => ?_)
  obtain ⟨G773, A774, at2_775, tk2_776, rfl, rfl, hW777, hF778, e779, e780, p781, p782, p783, -⟩ := hq
  have hF785 := Fr_tr hF0 hF778 (Fr_sub (by decide)) (Fr_sub (by decide))
  have hP786 := Pf_f hP0 hF778 (by decide)
  have hS787 := Fx_f hS0 hF778 (by decide)
  have hV788 := Fx_f hV0 hF778 (by decide)
  have hK789 := Fx_f hK0 hF778 (by decide)
  have sf790 : wQ A774 (pc0).toNat (nd) (sy) := (show A774 = A from funext (fun k => hF778.2 k rfl)) ▸ p_8
  have sf791 : VT (Vs) A774 (sy) := (show A774 = A from funext (fun k => hF778.2 k rfl)) ▸ p_9
  have ec792 : ecn A774 (G773 31) = ec := (ecn_f (hF778.2 15 rfl) (hF778.1 31 rfl)).trans e_ec
  have bat2_775 : (0 : Int) ≤ at2_775 ∧ at2_775 ≤ 3002 := e779 ▸ hW777.1 10
  have ztk2_776 := tz_b tk2_776
  have btk2_776 : (0 : Int) ≤ tk2_776 ∧ tk2_776 ≤ 5 := e780 ▸ hW777.1 11
  refine .inl ⟨rfl, ?_⟩
  have pz793 : at0 + tz tk2_776 ≤ at2_775 := by omega
  refine jx_ld (pc' := 5) (l' := [(0, .ref 66)]) (st' := [.ref 66]) rfl (jl_aloadn rfl) ?_
  have z794 := tz_f (tk2_776)
  refine jr_get (pc' := 8) (i := 11) (v := .int (i32 (tk2_776))) rfl rfl (by decide) (rFv_eq (by decide) (show G773 11 = tk2_776 from (e780))) rfl ?_
  refine jx_ar (pc' := 9) (st' := [.int (i32 (1)), .int (i32 (tk2_776))]) rfl rfl rfl rfl ?_
  refine jx_icmp_eq (pc' := 12) (tg := 22) rfl rfl rfl (Int.le_trans (by decide : (-2147483648 : Int) ≤ 0) btk2_776.1) (Int.le_trans btk2_776.2 (by decide : (5 : Int) ≤ 2147483647)) (by decide) (by decide) (fun h795 => ?_) (fun h795 => ?_)
  · have _q := h795
    refine jx_ld (pc' := 23) (l' := [(0, .ref 66)]) (st' := [.ref 66]) rfl (jl_aloadn rfl) ?_
    refine jx_ld (pc' := 24) (l' := [(0, .ref 66)]) (st' := [.ref 66, .ref 66]) rfl (jl_aloadn rfl) ?_
    refine jr_get (pc' := 27) (i := 14) (v := .long (i64 (G773 14))) rfl rfl (by decide) rfl rfl ?_
    obtain ⟨y796, ey796⟩ : ∃ q : Int64, q = i64 (G773 14) := ⟨_, rfl⟩
    rw [← ey796]
    refine jx_vr (pc' := 30) (as := [.long (y796)]) (st := []) rfl rfl rfl rfl ⟨rfl, rfl, Nat.le_of_ble_eq_true rfl⟩ rfl rfl (c_isTaken (dd := d) (hd := by omega) (hW := hW777) (nm := y796) (sy := sy) (e_sy := show G773 19 = sy from ((hF778.1 19 rfl).trans (e_sy)))    ) (fun o V' hq => ?_)
    obtain ⟨r797, rfl, rfl, b798, -⟩ := hq
    refine .inr ⟨_, rfl, ?_⟩
    refine jx_if_eq (pc' := 33) (tg := 42) rfl rfl rfl (Int.le_trans (by decide : (-2147483648 : Int) ≤ 0) b798.1) (Int.le_trans b798.2 (by decide : (1 : Int) ≤ 2147483647)) (fun h800 => ?_) (fun h800 => ?_)
    · have _q := h800
      refine jx_ld (pc' := 43) (l' := [(0, .ref 66)]) (st' := [.ref 66]) rfl (jl_aloadn rfl) ?_
      refine jx_vr (pc' := 46) (as := []) (st := []) rfl rfl rfl rfl ⟨rfl, rfl, Nat.le_of_ble_eq_true rfl⟩ rfl rfl (c_bad (dd := d) (hd := by omega) (hW := hW777)  (fk := fk) (e_fk := show G773 16 = fk from ((hF778.1 16 rfl).trans (e_fk)))    ) (fun o V' hq => ?_)
      obtain ⟨r801, rfl, rfl, b802, q803⟩ := hq
      refine .inr ⟨_, rfl, ?_⟩
      rcases q803 with ⟨rfl, a804⟩ | ⟨rfl, a805⟩
      · have _q : True := trivial
        exfalso
        omega
      · have _q : True := trivial
        refine jx_if_ne (pc' := 49) (tg := 68) rfl rfl rfl (by decide) (by decide) (fun h806 => ?_) (fun h806 => ?_)
        · have _q := h806
          exact absurd h806 (by omega)
        · have _q := h806
          refine jx_ld (pc' := 50) (l' := [(0, .ref 66)]) (st' := [.ref 66]) rfl (jl_aloadn rfl) ?_
          refine jr_get (pc' := 53) (i := 46) (v := .int (i32 (pc0))) rfl rfl (by decide) (rFv_eq (by decide) (show G773 46 = pc0 from ((hF778.1 46 rfl).trans (e_pc0)))) rfl ?_
          refine jx_ar (pc' := 55) (st' := [.int (i32 (24)), .int (i32 (pc0))]) rfl rfl rfl rfl ?_
          refine jx_icmp_ne (pc' := 58) (tg := 68) rfl rfl rfl (Int.le_trans (by decide : (-2147483648 : Int) ≤ 0) b_pc0.1) (Int.le_trans b_pc0.2 (by decide : (24 : Int) ≤ 2147483647)) (by decide) (by decide) (fun h807 => ?_) (fun h807 => ?_)
          · have _q := h807
            refine jx_ld (pc' := 69) (l' := [(0, .ref 66)]) (st' := [.ref 66]) rfl (jl_aloadn rfl) ?_
            refine jx_ar (pc' := 71) (st' := [.int (i32 (14)), .ref 66]) rfl rfl rfl rfl ?_
            refine jx_ar (pc' := 72) (st' := [.int (i32 (0)), .int (i32 (14)), .ref 66]) rfl rfl rfl rfl ?_
            refine jx_vr (pc' := 75) (as := [.int (i32 (14)), .int (i32 (0))]) (st := []) rfl rfl rfl rfl ⟨rfl, rfl, Nat.le_of_ble_eq_true rfl⟩ rfl rfl (c_newName (dd := d) (hd := by omega) (hW := hW777) (kind := 14) (many := 0) (sy := sy) (e_sy := show G773 19 = sy from ((hF778.1 19 rfl).trans (e_sy))) (na := na) (e_na := show G773 28 = na from ((hF778.1 28 rfl).trans (e_na))) (fk := fk) (e_fk := show G773 16 = fk from ((hF778.1 16 rfl).trans (e_fk)))  (h_kind := ⟨(by decide), (by decide)⟩) (h_many := ⟨(by decide), (by decide)⟩)  (p_0 := by omega) (p_1 := by omega)) (fun o V' hq => ?_)
            obtain ⟨G808, A809, r810, sy2_811, na2_812, fk2_813, yk2_814, rfl, rfl, hW815, hF816, hQ817, b818, e819, e820, e821, e822, q823⟩ := hq
            have hF824 := Fr_tr hF785 hF816 (Fr_sub (by decide)) (Fr_sub (by decide))
            have hP825 := Pf_f hP786 hF816 (by decide)
            have hS826 := Fx_tr hS787 hQ817 (by omega)
            have hV827 := Fx_f hV788 hF816 (by decide)
            have hK828 := Fx_f hK789 hF816 (by decide)
            have sf829 : wQ A809 (pc0).toNat (nd) (sy) := wQ_fx (Pf_f Pf_rf hF816 (by decide)) (Fx_su hQ817 (by omega)) (Fx_su (Fx_f (w := pc0) Fx_rf hF816 (by decide)) (by omega)) sf790
            have sf830 : VT (Vs) A809 (sy) := VT_fx hQ817 (by omega) sf791
            have ec831 : ecn A809 (G808 31) = ec := (ecn_f (hF816.2 15 rfl) (hF816.1 31 rfl)).trans ec792
            have bsy2_811 : (0 : Int) ≤ sy2_811 ∧ sy2_811 ≤ 202 := e819 ▸ hW815.1 19
            have bna2_812 : (0 : Int) ≤ na2_812 ∧ na2_812 ≤ 200 := e820 ▸ hW815.1 28
            have bfk2_813 : (0 : Int) ≤ fk2_813 ∧ fk2_813 ≤ 6 := e821 ▸ hW815.1 16
            have byk2_814 : (0 : Int) ≤ yk2_814 ∧ yk2_814 ≤ 14 := e822 ▸ hW815.2 7 _
            refine .inr ⟨_, rfl, ?_⟩
            rcases q823 with ⟨a838, a832, a833, a834, a835, a836, a837⟩ | ⟨rfl, a839, a840, a841⟩
            · have _q : True := trivial
              rw [a838]
              refine jx_ld (pc' := 76) (l' := jSto1 [(0, .ref 66)] 1 (.int (i32 (sy)))) (st' := []) rfl rfl ?_
              obtain ⟨L842, eL842⟩ : ∃ q, q = jSto1 [(0, .ref 66)] 1 (.int (i32 (sy))) := ⟨_, rfl⟩
              rw [← eL842]
              have gL842_0 : jGet L842 0 = some (.ref 66) := eL842 ▸ jg_ne (by decide) (rfl : jGet [(0, .ref 66)] 0 = some (.ref 66)) rfl
              have gL842_1 : jGet L842 1 = some (.int (i32 (sy))) := eL842 ▸ jg_eq
              refine jx_ld (pc' := 77) (l' := L842) (st' := [.ref 66]) rfl (jl_aloadn gL842_0) ?_
              refine jx_vr (pc' := 80) (as := []) (st := []) rfl rfl rfl rfl ⟨rfl, rfl, Nat.le_of_ble_eq_true rfl⟩ rfl rfl (c_bad (dd := d) (hd := by omega) (hW := hW815)  (fk := fk2_813) (e_fk := show G808 16 = fk2_813 from (e821))    ) (fun o V' hq => ?_)
              obtain ⟨r843, rfl, rfl, b844, q845⟩ := hq
              refine .inr ⟨_, rfl, ?_⟩
              rcases q845 with ⟨rfl, a846⟩ | ⟨rfl, a847⟩
              · have _q : True := trivial
                exfalso
                omega
              · have _q : True := trivial
                refine jx_if_eq (pc' := 83) (tg := 84) rfl rfl rfl (by decide) (by decide) (fun h848 => ?_) (fun h848 => ?_)
                · have _q := h848
                  refine jx_ld (pc' := 85) (l' := L842) (st' := [.ref 66]) rfl (jl_aloadn gL842_0) ?_
                  refine jr_get (pc' := 88) (i := 26) (v := .ref 79) rfl rfl (by decide) rfl rfl ?_
                  refine jx_ld (pc' := 89) (l' := L842) (st' := [.int (i32 (sy)), .ref 79]) rfl (jl_iloadn gL842_1) ?_
                  refine jx_ld (pc' := 90) (l' := L842) (st' := [.ref 66, .int (i32 (sy)), .ref 79]) rfl (jl_aloadn gL842_0) ?_
                  refine jr_get (pc' := 93) (i := 46) (v := .int (i32 (pc0))) rfl rfl (by decide) (rFv_eq (by decide) (show G808 46 = pc0 from ((hF816.1 46 rfl).trans ((hF778.1 46 rfl).trans (e_pc0))))) rfl ?_
                  refine jr_st (pc' := 94) (i := 12) (m := 260) (z := sy) (y := pc0) rfl (by decide) rfl (by decide) (by omega) (by omega) rfl ?_
                  have hW850 : Wk G808 (uA A809 12 (sy).toNat (pc0)) := Wk_a hW815 (show (0 : Int) ≤ pc0 by omega) (show pc0 ≤ (24 : Int) by omega)
                  have hF851 := Fr_a (z := pc0) (k := 12) (n := (sy).toNat) hF824 (by decide)
                  obtain ⟨A849, eA849⟩ : ∃ q, q = uA A809 12 (sy).toNat (pc0) := ⟨_, rfl⟩
                  rw [← eA849]
                  rw [← eA849] at hW850 hF851
                  have q852 : A849 12 (sy).toNat = pc0 := by rw [eA849]; exact uA_eq
                  have hP853 : Pf nd A A849 := eA849 ▸ Pf_n hP825 rfl
                  have hS854 : Fx sr (sy) A A849 := eA849 ▸ Fx_a hS826 (z := sy) (by omega) (by omega)
                  have hV855 : Fx [14] (vi) A A849 := eA849 ▸ Fx_n hV827 rfl
                  have hK856 : Fx [29, 30, 31] (pc0) A A849 := eA849 ▸ Fx_n hK828 rfl
                  have ec857 : ecn A849 (G808 31) = ec := (ecn_e ((congrFun eA849 15).trans (uA_ne (by decide)))).trans ec831
                  refine jx_ld (pc' := 95) (l' := L842) (st' := [.ref 66]) rfl (jl_aloadn gL842_0) ?_
                  refine jx_ar (pc' := 96) (st' := [.int (i32 (1)), .ref 66]) rfl rfl rfl rfl ?_
                  refine jx_vr (pc' := 99) (as := [.int (i32 (1))]) (st := []) rfl rfl rfl rfl ⟨rfl, rfl, Nat.le_of_ble_eq_true rfl⟩ rfl rfl (c_need (dd := d) (hd := by omega) (hW := hW850) (g := 1) (ln := ln) (e_ln := show G808 9 = ln from ((hF816.1 9 rfl).trans ((hF778.1 9 rfl).trans (e_ln)))) (le := le) (e_le := show A849 4 (ln).toNat = le from (congrFun (((congrFun eA849 4).trans (uA_ne (by decide))).trans ((hF816.2 4 rfl).trans (hF778.2 4 rfl))) _).trans (e_le)) (at0 := at2_775) (e_at0 := show G808 10 = at2_775 from ((hF816.1 10 rfl).trans (e779))) (fk := fk2_813) (e_fk := show G808 16 = fk2_813 from (e821)) (tk0 := tk2_776) (e_tk0 := show G808 11 = tk2_776 from ((hF816.1 11 rfl).trans (e780)))  (h_g := ⟨(by decide), (by decide)⟩)  (p_0 := by omega)) (fun o V' hq => ?_)
                  obtain ⟨G858, A859, at2_860, tk2_861, fk2_862, rfl, rfl, hW863, hF864, e865, e866, e867, p868, p869, q870⟩ := hq
                  have hF871 := Fr_tr hF851 hF864 (Fr_sub (by decide)) (Fr_sub (by decide))
                  have hP872 := Pf_f hP853 hF864 (by decide)
                  have hS873 := Fx_f hS854 hF864 (by decide)
                  have hV874 := Fx_f hV855 hF864 (by decide)
                  have hK875 := Fx_f hK856 hF864 (by decide)
                  have ec876 : ecn A859 (G858 31) = ec := (ecn_f (hF864.2 15 rfl) (hF864.1 31 rfl)).trans ec857
                  have bat2_860 : (0 : Int) ≤ at2_860 ∧ at2_860 ≤ 3002 := e865 ▸ hW863.1 10
                  have ztk2_861 := tz_b tk2_861
                  have btk2_861 : (0 : Int) ≤ tk2_861 ∧ tk2_861 ≤ 5 := e866 ▸ hW863.1 11
                  have bfk2_862 : (0 : Int) ≤ fk2_862 ∧ fk2_862 ≤ 6 := e867 ▸ hW863.1 16
                  refine .inl ⟨rfl, ?_⟩
                  rcases q870 with ⟨a877, a878, a879, a880⟩ | ⟨a881, a882, a883, a884⟩
                  · have _q : True := trivial
                    refine jx_ld (pc' := 100) (l' := L842) (st' := [.ref 66]) rfl (jl_aloadn gL842_0) ?_
                    refine jx_ld (pc' := 101) (l' := L842) (st' := [.ref 66, .ref 66]) rfl (jl_aloadn gL842_0) ?_
                    refine jx_ar (pc' := 103) (st' := [.int (i32 (40)), .ref 66, .ref 66]) rfl rfl rfl rfl ?_
                    have b885 : (-2147483648 : Int) ≤ G858 13 ∧ G858 13 ≤ 2147483647 := hW863.1 13
                    refine jx_vr (pc' := 106) (as := [.int (i32 (40))]) (st := [.ref 66]) rfl rfl rfl rfl ⟨rfl, rfl, Nat.le_of_ble_eq_true rfl⟩ rfl rfl (c_is (dd := d) (hd := by omega) (hW := hW863) (k := 40) (tk := tk2_861) (e_tk := show G858 11 = tk2_861 from (e866)) (tn := G858 13) (e_tn := show G858 13 = G858 13 from rfl)  (h_k := ⟨(by decide), (by decide)⟩)  ) (fun o V' hq => ?_)
                    obtain ⟨r886, rfl, rfl, b887, q888⟩ := hq
                    refine .inr ⟨_, rfl, ?_⟩
                    rcases q888 with ⟨rfl, a889, a890, a891⟩ | rfl
                    · have _q : True := trivial
                      refine jx_vr (pc' := 109) (as := [.int (i32 (1))]) (st := []) rfl rfl rfl rfl ⟨rfl, rfl, Nat.le_of_ble_eq_true rfl⟩ rfl rfl (c_need (dd := d) (hd := by omega) (hW := hW863) (g := 1) (ln := ln) (e_ln := show G858 9 = ln from ((hF864.1 9 rfl).trans ((hF816.1 9 rfl).trans ((hF778.1 9 rfl).trans (e_ln))))) (le := le) (e_le := show A859 4 (ln).toNat = le from (congrFun ((hF864.2 4 rfl).trans (((congrFun eA849 4).trans (uA_ne (by decide))).trans ((hF816.2 4 rfl).trans (hF778.2 4 rfl)))) _).trans (e_le)) (at0 := at2_860) (e_at0 := show G858 10 = at2_860 from (e865)) (fk := fk2_862) (e_fk := show G858 16 = fk2_862 from (e867)) (tk0 := tk2_861) (e_tk0 := show G858 11 = tk2_861 from (e866))  (h_g := ⟨(by decide), (by decide)⟩)  (p_0 := by omega)) (fun o V' hq => ?_)
                      obtain ⟨G892, A893, at2_894, tk2_895, fk2_896, rfl, rfl, hW897, hF898, e899, e900, e901, p902, p903, q904⟩ := hq
                      have hF905 := Fr_tr hF871 hF898 (Fr_sub (by decide)) (Fr_sub (by decide))
                      have hP906 := Pf_f hP872 hF898 (by decide)
                      have hS907 := Fx_f hS873 hF898 (by decide)
                      have hV908 := Fx_f hV874 hF898 (by decide)
                      have hK909 := Fx_f hK875 hF898 (by decide)
                      have ec910 : ecn A893 (G892 31) = ec := (ecn_f (hF898.2 15 rfl) (hF898.1 31 rfl)).trans ec876
                      have bat2_894 : (0 : Int) ≤ at2_894 ∧ at2_894 ≤ 3002 := e899 ▸ hW897.1 10
                      have ztk2_895 := tz_b tk2_895
                      have btk2_895 : (0 : Int) ≤ tk2_895 ∧ tk2_895 ≤ 5 := e900 ▸ hW897.1 11
                      have bfk2_896 : (0 : Int) ≤ fk2_896 ∧ fk2_896 ≤ 6 := e901 ▸ hW897.1 16
                      refine .inl ⟨rfl, ?_⟩
                      rcases q904 with ⟨a911, a912, a913, a914⟩ | ⟨a915, a916, a917, a918⟩
                      · have _q : True := trivial
                        refine jx_ld (pc' := 110) (l' := L842) (st' := [.ref 66]) rfl (jl_aloadn gL842_0) ?_
                        refine jr_get (pc' := 113) (i := 47) (v := .ref 96) rfl rfl (by decide) rfl rfl ?_
                        refine jx_ld (pc' := 114) (l' := L842) (st' := [.ref 66, .ref 96]) rfl (jl_aloadn gL842_0) ?_
                        refine jr_get (pc' := 117) (i := 46) (v := .int (i32 (pc0))) rfl rfl (by decide) (rFv_eq (by decide) (show G892 46 = pc0 from ((hF898.1 46 rfl).trans ((hF864.1 46 rfl).trans ((hF816.1 46 rfl).trans ((hF778.1 46 rfl).trans (e_pc0))))))) rfl ?_
                        refine jx_ld (pc' := 118) (l' := L842) (st' := [.ref 66, .int (i32 (pc0)), .ref 96]) rfl (jl_aloadn gL842_0) ?_
                        refine jr_get (pc' := 121) (i := 19) (v := .int (i32 (sy2_811))) rfl rfl (by decide) (rFv_eq (by decide) (show G892 19 = sy2_811 from ((hF898.1 19 rfl).trans ((hF864.1 19 rfl).trans (e819))))) rfl ?_
                        refine jr_st (pc' := 122) (i := 29) (m := 25) (z := pc0) (y := sy2_811) rfl (by decide) rfl (by decide) (by omega) (by omega) rfl ?_
                        have hW920 : Wk G892 (uA A893 29 (pc0).toNat (sy2_811)) := Wk_a hW897 (show (0 : Int) ≤ sy2_811 by omega) (show sy2_811 ≤ (202 : Int) by omega)
                        have hF921 := Fr_a (z := sy2_811) (k := 29) (n := (pc0).toNat) hF905 (by decide)
                        obtain ⟨A919, eA919⟩ : ∃ q, q = uA A893 29 (pc0).toNat (sy2_811) := ⟨_, rfl⟩
                        rw [← eA919]
                        rw [← eA919] at hW920 hF921
                        have q922 : A919 29 (pc0).toNat = sy2_811 := by rw [eA919]; exact uA_eq
                        have hP923 : Pf nd A A919 := eA919 ▸ Pf_n hP906 rfl
                        have hS924 : Fx sr (sy) A A919 := eA919 ▸ Fx_n hS907 rfl
                        have hV925 : Fx [14] (vi) A A919 := eA919 ▸ Fx_n hV908 rfl
                        have hK926 : Fx [29, 30, 31] (pc0) A A919 := eA919 ▸ Fx_a hK909 (z := pc0) (by omega) (by omega)
                        have ec927 : ecn A919 (G892 31) = ec := (ecn_e ((congrFun eA919 15).trans (uA_ne (by decide)))).trans ec910
                        refine jx_ar (pc' := 123) (st' := [.int (i32 (0))]) rfl rfl rfl rfl ?_
                        refine jx_ld (pc' := 124) (l' := jSto1 L842 2 (.int (i32 (0)))) (st' := []) rfl rfl ?_
                        obtain ⟨L928, eL928⟩ : ∃ q, q = jSto1 L842 2 (.int (i32 (0))) := ⟨_, rfl⟩
                        rw [← eL928]
                        have gL928_0 : jGet L928 0 = some (.ref 66) := eL928 ▸ jg_ne (by decide) gL842_0 rfl
                        have gL928_1 : jGet L928 1 = some (.int (i32 (sy))) := eL928 ▸ jg_ne (by decide) gL842_1 rfl
                        have gL928_2 : jGet L928 2 = some (.int (i32 (0))) := eL928 ▸ jg_eq
                        refine jx_ld (pc' := 125) (l' := L928) (st' := [.ref 66]) rfl (jl_aloadn gL928_0) ?_
                        refine jx_vr (pc' := 128) (as := []) (st := []) rfl rfl rfl rfl ⟨rfl, rfl, Nat.le_of_ble_eq_true rfl⟩ rfl rfl (c_bad (dd := d) (hd := by omega) (hW := hW920)  (fk := fk2_896) (e_fk := show G892 16 = fk2_896 from (e901))    ) (fun o V' hq => ?_)
                        obtain ⟨r929, rfl, rfl, b930, q931⟩ := hq
                        refine .inr ⟨_, rfl, ?_⟩
                        rcases q931 with ⟨rfl, a932⟩ | ⟨rfl, a933⟩
                        · have _q : True := trivial
                          refine jx_if_ne (pc' := 131) (tg := 144) rfl rfl rfl (by decide) (by decide) (fun h934 => ?_) (fun h934 => ?_)
                          · have _q := h934
                            refine jx_ar (pc' := 145) (st' := [.int (i32 (0))]) rfl rfl rfl rfl ?_
                            refine jx_ld (pc' := 146) (l' := jSto1 L928 3 (.int (i32 (0)))) (st' := []) rfl rfl ?_
                            obtain ⟨L935, eL935⟩ : ∃ q, q = jSto1 L928 3 (.int (i32 (0))) := ⟨_, rfl⟩
                            rw [← eL935]
                            have gL935_0 : jGet L935 0 = some (.ref 66) := eL935 ▸ jg_ne (by decide) gL928_0 rfl
                            have gL935_1 : jGet L935 1 = some (.int (i32 (sy))) := eL935 ▸ jg_ne (by decide) gL928_1 rfl
                            have gL935_2 : jGet L935 2 = some (.int (i32 (0))) := eL935 ▸ jg_ne (by decide) gL928_2 rfl
                            have gL935_3 : jGet L935 3 = some (.int (i32 (0))) := eL935 ▸ jg_eq
                            refine jx_ld (pc' := 147) (l' := L935) (st' := [.ref 66]) rfl (jl_aloadn gL935_0) ?_
                            refine jx_vr (pc' := 150) (as := []) (st := []) rfl rfl rfl rfl ⟨rfl, rfl, Nat.le_of_ble_eq_true rfl⟩ rfl rfl (c_bad (dd := d) (hd := by omega) (hW := hW920)  (fk := fk2_896) (e_fk := show G892 16 = fk2_896 from (e901))    ) (fun o V' hq => ?_)
                            obtain ⟨r936, rfl, rfl, b937, q938⟩ := hq
                            refine .inr ⟨_, rfl, ?_⟩
                            rcases q938 with ⟨rfl, a939⟩ | ⟨rfl, a940⟩
                            · have _q : True := trivial
                              refine jx_if_ne (pc' := 153) (tg := 212) rfl rfl rfl (by decide) (by decide) (fun h941 => ?_) (fun h941 => ?_)
                              · have _q := h941
                                exact c_readProc_w_at_212p (X := X) (d := d) (Vs := Vs) (sb := sb) (pb := pb) (hvb := hvb) (c0 := c0) (c1 := c1) (G := G) (A := A) (T := T) (ln := ln) (li := li) (at0 := at0) (fk := fk) (nd := nd) (sy := sy) (na := na) (vi := vi) (le := le) (op0 := op0) (tk0 := tk0) (pc0 := pc0) (ec := ec) (hd := hd) (hW := hW) (e_ln := e_ln) (e_li := e_li) (e_at0 := e_at0) (e_fk := e_fk) (e_nd := e_nd) (e_sy := e_sy) (e_na := e_na) (e_vi := e_vi) (e_le := e_le) (e_op0 := e_op0) (e_tk0 := e_tk0) (e_pc0 := e_pc0) (e_ec := e_ec) (i_LT := i_LT) (i_SV := i_SV) (i_PQ := i_PQ) (p_0 := p_0) (p_1 := p_1) (p_2 := p_2) (p_3 := p_3) (p_4 := p_4) (p_5 := p_5) (p_6 := p_6) (p_7 := p_7) (p_8 := p_8) (p_9 := p_9) L935 G892 A919 (sy) (0) (at2_894) (fk2_896) (sy2_811) (na2_812) gL935_0 gL935_1 gL935_2 hW920 hF921 hP923 hS924 hV925 hK926 ((e899)) ((e901)) (((hF898.1 19 rfl).trans ((hF864.1 19 rfl).trans (e819)))) (((hF898.1 28 rfl).trans ((hF864.1 28 rfl).trans (e820)))) (((hF898.1 9 rfl).trans ((hF864.1 9 rfl).trans ((hF816.1 9 rfl).trans ((hF778.1 9 rfl).trans (e_ln)))))) (((hF898.1 29 rfl).trans ((hF864.1 29 rfl).trans ((hF816.1 29 rfl).trans ((hF778.1 29 rfl).trans (e_vi)))))) (((hF898.1 46 rfl).trans ((hF864.1 46 rfl).trans ((hF816.1 46 rfl).trans ((hF778.1 46 rfl).trans (e_pc0)))))) (((hF898.1 31 rfl).trans ((hF864.1 31 rfl).trans ((hF816.1 31 rfl).trans ((hF778.1 31 rfl).trans (e_nd)))))) (ec927) (by omega) (by omega) (by omega) (by omega) (by omega) (by omega) (by omega) (by omega) (by omega)
                              · have _q := h941
                                exact absurd h941 (by omega)
                            · have _q : True := trivial
                              exfalso
                              omega
                          · have _q := h934
                            exact absurd h934 (by omega)
                        · have _q : True := trivial
                          exfalso
                          omega
                      · have _q : True := trivial
                        exfalso
                        omega
                    · have _q : True := trivial
                      refine jx_vr (pc' := 109) (as := [.int (i32 (0))]) (st := []) rfl rfl rfl rfl ⟨rfl, rfl, Nat.le_of_ble_eq_true rfl⟩ rfl rfl (c_need (dd := d) (hd := by omega) (hW := hW863) (g := 0) (ln := ln) (e_ln := show G858 9 = ln from ((hF864.1 9 rfl).trans ((hF816.1 9 rfl).trans ((hF778.1 9 rfl).trans (e_ln))))) (le := le) (e_le := show A859 4 (ln).toNat = le from (congrFun ((hF864.2 4 rfl).trans (((congrFun eA849 4).trans (uA_ne (by decide))).trans ((hF816.2 4 rfl).trans (hF778.2 4 rfl)))) _).trans (e_le)) (at0 := at2_860) (e_at0 := show G858 10 = at2_860 from (e865)) (fk := fk2_862) (e_fk := show G858 16 = fk2_862 from (e867)) (tk0 := tk2_861) (e_tk0 := show G858 11 = tk2_861 from (e866))  (h_g := ⟨(by decide), (by decide)⟩)  (p_0 := by omega)) (fun o V' hq => ?_)
                      obtain ⟨G942, A943, at2_944, tk2_945, fk2_946, rfl, rfl, hW947, hF948, e949, e950, e951, p952, p953, q954⟩ := hq
                      have hF955 := Fr_tr hF871 hF948 (Fr_sub (by decide)) (Fr_sub (by decide))
                      have hP956 := Pf_f hP872 hF948 (by decide)
                      have hS957 := Fx_f hS873 hF948 (by decide)
                      have hV958 := Fx_f hV874 hF948 (by decide)
                      have hK959 := Fx_f hK875 hF948 (by decide)
                      have ec960 : ecn A943 (G942 31) = ec := (ecn_f (hF948.2 15 rfl) (hF948.1 31 rfl)).trans ec876
                      have bat2_944 : (0 : Int) ≤ at2_944 ∧ at2_944 ≤ 3002 := e949 ▸ hW947.1 10
                      have ztk2_945 := tz_b tk2_945
                      have btk2_945 : (0 : Int) ≤ tk2_945 ∧ tk2_945 ≤ 5 := e950 ▸ hW947.1 11
                      have bfk2_946 : (0 : Int) ≤ fk2_946 ∧ fk2_946 ≤ 6 := e951 ▸ hW947.1 16
                      refine .inl ⟨rfl, ?_⟩
                      rcases q954 with ⟨a961, a962, a963, a964⟩ | ⟨a965, a966, a967, a968⟩
                      · have _q : True := trivial
                        refine jx_ld (pc' := 110) (l' := L842) (st' := [.ref 66]) rfl (jl_aloadn gL842_0) ?_
                        refine jr_get (pc' := 113) (i := 47) (v := .ref 96) rfl rfl (by decide) rfl rfl ?_
                        refine jx_ld (pc' := 114) (l' := L842) (st' := [.ref 66, .ref 96]) rfl (jl_aloadn gL842_0) ?_
                        refine jr_get (pc' := 117) (i := 46) (v := .int (i32 (pc0))) rfl rfl (by decide) (rFv_eq (by decide) (show G942 46 = pc0 from ((hF948.1 46 rfl).trans ((hF864.1 46 rfl).trans ((hF816.1 46 rfl).trans ((hF778.1 46 rfl).trans (e_pc0))))))) rfl ?_
                        refine jx_ld (pc' := 118) (l' := L842) (st' := [.ref 66, .int (i32 (pc0)), .ref 96]) rfl (jl_aloadn gL842_0) ?_
                        refine jr_get (pc' := 121) (i := 19) (v := .int (i32 (sy2_811))) rfl rfl (by decide) (rFv_eq (by decide) (show G942 19 = sy2_811 from ((hF948.1 19 rfl).trans ((hF864.1 19 rfl).trans (e819))))) rfl ?_
                        refine jr_st (pc' := 122) (i := 29) (m := 25) (z := pc0) (y := sy2_811) rfl (by decide) rfl (by decide) (by omega) (by omega) rfl ?_
                        have hW970 : Wk G942 (uA A943 29 (pc0).toNat (sy2_811)) := Wk_a hW947 (show (0 : Int) ≤ sy2_811 by omega) (show sy2_811 ≤ (202 : Int) by omega)
                        have hF971 := Fr_a (z := sy2_811) (k := 29) (n := (pc0).toNat) hF955 (by decide)
                        obtain ⟨A969, eA969⟩ : ∃ q, q = uA A943 29 (pc0).toNat (sy2_811) := ⟨_, rfl⟩
                        rw [← eA969]
                        rw [← eA969] at hW970 hF971
                        have q972 : A969 29 (pc0).toNat = sy2_811 := by rw [eA969]; exact uA_eq
                        have hP973 : Pf nd A A969 := eA969 ▸ Pf_n hP956 rfl
                        have hS974 : Fx sr (sy) A A969 := eA969 ▸ Fx_n hS957 rfl
                        have hV975 : Fx [14] (vi) A A969 := eA969 ▸ Fx_n hV958 rfl
                        have hK976 : Fx [29, 30, 31] (pc0) A A969 := eA969 ▸ Fx_a hK959 (z := pc0) (by omega) (by omega)
                        have ec977 : ecn A969 (G942 31) = ec := (ecn_e ((congrFun eA969 15).trans (uA_ne (by decide)))).trans ec960
                        refine jx_ar (pc' := 123) (st' := [.int (i32 (0))]) rfl rfl rfl rfl ?_
                        refine jx_ld (pc' := 124) (l' := jSto1 L842 2 (.int (i32 (0)))) (st' := []) rfl rfl ?_
                        obtain ⟨L978, eL978⟩ : ∃ q, q = jSto1 L842 2 (.int (i32 (0))) := ⟨_, rfl⟩
                        rw [← eL978]
                        have gL978_0 : jGet L978 0 = some (.ref 66) := eL978 ▸ jg_ne (by decide) gL842_0 rfl
                        have gL978_1 : jGet L978 1 = some (.int (i32 (sy))) := eL978 ▸ jg_ne (by decide) gL842_1 rfl
                        have gL978_2 : jGet L978 2 = some (.int (i32 (0))) := eL978 ▸ jg_eq
                        refine jx_ld (pc' := 125) (l' := L978) (st' := [.ref 66]) rfl (jl_aloadn gL978_0) ?_
                        refine jx_vr (pc' := 128) (as := []) (st := []) rfl rfl rfl rfl ⟨rfl, rfl, Nat.le_of_ble_eq_true rfl⟩ rfl rfl (c_bad (dd := d) (hd := by omega) (hW := hW970)  (fk := fk2_946) (e_fk := show G942 16 = fk2_946 from (e951))    ) (fun o V' hq => ?_)
                        obtain ⟨r979, rfl, rfl, b980, q981⟩ := hq
                        refine .inr ⟨_, rfl, ?_⟩
                        rcases q981 with ⟨rfl, a982⟩ | ⟨rfl, a983⟩
                        · have _q : True := trivial
                          refine jx_if_ne (pc' := 131) (tg := 144) rfl rfl rfl (by decide) (by decide) (fun h984 => ?_) (fun h984 => ?_)
                          · have _q := h984
                            refine jx_ar (pc' := 145) (st' := [.int (i32 (0))]) rfl rfl rfl rfl ?_
                            refine jx_ld (pc' := 146) (l' := jSto1 L978 3 (.int (i32 (0)))) (st' := []) rfl rfl ?_
                            obtain ⟨L985, eL985⟩ : ∃ q, q = jSto1 L978 3 (.int (i32 (0))) := ⟨_, rfl⟩
                            rw [← eL985]
                            have gL985_0 : jGet L985 0 = some (.ref 66) := eL985 ▸ jg_ne (by decide) gL978_0 rfl
                            have gL985_1 : jGet L985 1 = some (.int (i32 (sy))) := eL985 ▸ jg_ne (by decide) gL978_1 rfl
                            have gL985_2 : jGet L985 2 = some (.int (i32 (0))) := eL985 ▸ jg_ne (by decide) gL978_2 rfl
                            have gL985_3 : jGet L985 3 = some (.int (i32 (0))) := eL985 ▸ jg_eq
                            refine jx_ld (pc' := 147) (l' := L985) (st' := [.ref 66]) rfl (jl_aloadn gL985_0) ?_
                            refine jx_vr (pc' := 150) (as := []) (st := []) rfl rfl rfl rfl ⟨rfl, rfl, Nat.le_of_ble_eq_true rfl⟩ rfl rfl (c_bad (dd := d) (hd := by omega) (hW := hW970)  (fk := fk2_946) (e_fk := show G942 16 = fk2_946 from (e951))    ) (fun o V' hq => ?_)
                            obtain ⟨r986, rfl, rfl, b987, q988⟩ := hq
                            refine .inr ⟨_, rfl, ?_⟩
                            rcases q988 with ⟨rfl, a989⟩ | ⟨rfl, a990⟩
                            · have _q : True := trivial
                              refine jx_if_ne (pc' := 153) (tg := 212) rfl rfl rfl (by decide) (by decide) (fun h991 => ?_) (fun h991 => ?_)
                              · have _q := h991
                                exact c_readProc_w_at_212p (X := X) (d := d) (Vs := Vs) (sb := sb) (pb := pb) (hvb := hvb) (c0 := c0) (c1 := c1) (G := G) (A := A) (T := T) (ln := ln) (li := li) (at0 := at0) (fk := fk) (nd := nd) (sy := sy) (na := na) (vi := vi) (le := le) (op0 := op0) (tk0 := tk0) (pc0 := pc0) (ec := ec) (hd := hd) (hW := hW) (e_ln := e_ln) (e_li := e_li) (e_at0 := e_at0) (e_fk := e_fk) (e_nd := e_nd) (e_sy := e_sy) (e_na := e_na) (e_vi := e_vi) (e_le := e_le) (e_op0 := e_op0) (e_tk0 := e_tk0) (e_pc0 := e_pc0) (e_ec := e_ec) (i_LT := i_LT) (i_SV := i_SV) (i_PQ := i_PQ) (p_0 := p_0) (p_1 := p_1) (p_2 := p_2) (p_3 := p_3) (p_4 := p_4) (p_5 := p_5) (p_6 := p_6) (p_7 := p_7) (p_8 := p_8) (p_9 := p_9) L985 G942 A969 (sy) (0) (at2_944) (fk2_946) (sy2_811) (na2_812) gL985_0 gL985_1 gL985_2 hW970 hF971 hP973 hS974 hV975 hK976 ((e949)) ((e951)) (((hF948.1 19 rfl).trans ((hF864.1 19 rfl).trans (e819)))) (((hF948.1 28 rfl).trans ((hF864.1 28 rfl).trans (e820)))) (((hF948.1 9 rfl).trans ((hF864.1 9 rfl).trans ((hF816.1 9 rfl).trans ((hF778.1 9 rfl).trans (e_ln)))))) (((hF948.1 29 rfl).trans ((hF864.1 29 rfl).trans ((hF816.1 29 rfl).trans ((hF778.1 29 rfl).trans (e_vi)))))) (((hF948.1 46 rfl).trans ((hF864.1 46 rfl).trans ((hF816.1 46 rfl).trans ((hF778.1 46 rfl).trans (e_pc0)))))) (((hF948.1 31 rfl).trans ((hF864.1 31 rfl).trans ((hF816.1 31 rfl).trans ((hF778.1 31 rfl).trans (e_nd)))))) (ec977) (by omega) (by omega) (by omega) (by omega) (by omega) (by omega) (by omega) (by omega) (by omega)
                              · have _q := h991
                                exact absurd h991 (by omega)
                            · have _q : True := trivial
                              exfalso
                              omega
                          · have _q := h984
                            exact absurd h984 (by omega)
                        · have _q : True := trivial
                          exfalso
                          omega
                      · have _q : True := trivial
                        exfalso
                        omega
                  · have _q : True := trivial
                    have pz992 : at2_775 + tz tk2_861 ≤ at2_860 := by omega
                    refine jx_ld (pc' := 100) (l' := L842) (st' := [.ref 66]) rfl (jl_aloadn gL842_0) ?_
                    refine jx_ld (pc' := 101) (l' := L842) (st' := [.ref 66, .ref 66]) rfl (jl_aloadn gL842_0) ?_
                    refine jx_ar (pc' := 103) (st' := [.int (i32 (40)), .ref 66, .ref 66]) rfl rfl rfl rfl ?_
                    have b993 : (-2147483648 : Int) ≤ G858 13 ∧ G858 13 ≤ 2147483647 := hW863.1 13
                    refine jx_vr (pc' := 106) (as := [.int (i32 (40))]) (st := [.ref 66]) rfl rfl rfl rfl ⟨rfl, rfl, Nat.le_of_ble_eq_true rfl⟩ rfl rfl (c_is (dd := d) (hd := by omega) (hW := hW863) (k := 40) (tk := tk2_861) (e_tk := show G858 11 = tk2_861 from (e866)) (tn := G858 13) (e_tn := show G858 13 = G858 13 from rfl)  (h_k := ⟨(by decide), (by decide)⟩)  ) (fun o V' hq => ?_)
                    obtain ⟨r994, rfl, rfl, b995, q996⟩ := hq
                    refine .inr ⟨_, rfl, ?_⟩
                    rcases q996 with ⟨rfl, a997, a998, a999⟩ | rfl
                    · have _q : True := trivial
                      refine jx_vr (pc' := 109) (as := [.int (i32 (1))]) (st := []) rfl rfl rfl rfl ⟨rfl, rfl, Nat.le_of_ble_eq_true rfl⟩ rfl rfl (c_need (dd := d) (hd := by omega) (hW := hW863) (g := 1) (ln := ln) (e_ln := show G858 9 = ln from ((hF864.1 9 rfl).trans ((hF816.1 9 rfl).trans ((hF778.1 9 rfl).trans (e_ln))))) (le := le) (e_le := show A859 4 (ln).toNat = le from (congrFun ((hF864.2 4 rfl).trans (((congrFun eA849 4).trans (uA_ne (by decide))).trans ((hF816.2 4 rfl).trans (hF778.2 4 rfl)))) _).trans (e_le)) (at0 := at2_860) (e_at0 := show G858 10 = at2_860 from (e865)) (fk := fk2_862) (e_fk := show G858 16 = fk2_862 from (e867)) (tk0 := tk2_861) (e_tk0 := show G858 11 = tk2_861 from (e866))  (h_g := ⟨(by decide), (by decide)⟩)  (p_0 := by omega)) (fun o V' hq => ?_)
                      obtain ⟨G1000, A1001, at2_1002, tk2_1003, fk2_1004, rfl, rfl, hW1005, hF1006, e1007, e1008, e1009, p1010, p1011, q1012⟩ := hq
                      have hF1013 := Fr_tr hF871 hF1006 (Fr_sub (by decide)) (Fr_sub (by decide))
                      have hP1014 := Pf_f hP872 hF1006 (by decide)
                      have hS1015 := Fx_f hS873 hF1006 (by decide)
                      have hV1016 := Fx_f hV874 hF1006 (by decide)
                      have hK1017 := Fx_f hK875 hF1006 (by decide)
                      have ec1018 : ecn A1001 (G1000 31) = ec := (ecn_f (hF1006.2 15 rfl) (hF1006.1 31 rfl)).trans ec876
                      have bat2_1002 : (0 : Int) ≤ at2_1002 ∧ at2_1002 ≤ 3002 := e1007 ▸ hW1005.1 10
                      have ztk2_1003 := tz_b tk2_1003
                      have btk2_1003 : (0 : Int) ≤ tk2_1003 ∧ tk2_1003 ≤ 5 := e1008 ▸ hW1005.1 11
                      have bfk2_1004 : (0 : Int) ≤ fk2_1004 ∧ fk2_1004 ≤ 6 := e1009 ▸ hW1005.1 16
                      refine .inl ⟨rfl, ?_⟩
                      rcases q1012 with ⟨a1019, a1020, a1021, a1022⟩ | ⟨a1023, a1024, a1025, a1026⟩
                      · have _q : True := trivial
                        refine jx_ld (pc' := 110) (l' := L842) (st' := [.ref 66]) rfl (jl_aloadn gL842_0) ?_
                        refine jr_get (pc' := 113) (i := 47) (v := .ref 96) rfl rfl (by decide) rfl rfl ?_
                        refine jx_ld (pc' := 114) (l' := L842) (st' := [.ref 66, .ref 96]) rfl (jl_aloadn gL842_0) ?_
                        refine jr_get (pc' := 117) (i := 46) (v := .int (i32 (pc0))) rfl rfl (by decide) (rFv_eq (by decide) (show G1000 46 = pc0 from ((hF1006.1 46 rfl).trans ((hF864.1 46 rfl).trans ((hF816.1 46 rfl).trans ((hF778.1 46 rfl).trans (e_pc0))))))) rfl ?_
                        refine jx_ld (pc' := 118) (l' := L842) (st' := [.ref 66, .int (i32 (pc0)), .ref 96]) rfl (jl_aloadn gL842_0) ?_
                        refine jr_get (pc' := 121) (i := 19) (v := .int (i32 (sy2_811))) rfl rfl (by decide) (rFv_eq (by decide) (show G1000 19 = sy2_811 from ((hF1006.1 19 rfl).trans ((hF864.1 19 rfl).trans (e819))))) rfl ?_
                        refine jr_st (pc' := 122) (i := 29) (m := 25) (z := pc0) (y := sy2_811) rfl (by decide) rfl (by decide) (by omega) (by omega) rfl ?_
                        have hW1028 : Wk G1000 (uA A1001 29 (pc0).toNat (sy2_811)) := Wk_a hW1005 (show (0 : Int) ≤ sy2_811 by omega) (show sy2_811 ≤ (202 : Int) by omega)
                        have hF1029 := Fr_a (z := sy2_811) (k := 29) (n := (pc0).toNat) hF1013 (by decide)
                        obtain ⟨A1027, eA1027⟩ : ∃ q, q = uA A1001 29 (pc0).toNat (sy2_811) := ⟨_, rfl⟩
                        rw [← eA1027]
                        rw [← eA1027] at hW1028 hF1029
                        have q1030 : A1027 29 (pc0).toNat = sy2_811 := by rw [eA1027]; exact uA_eq
                        have hP1031 : Pf nd A A1027 := eA1027 ▸ Pf_n hP1014 rfl
                        have hS1032 : Fx sr (sy) A A1027 := eA1027 ▸ Fx_n hS1015 rfl
                        have hV1033 : Fx [14] (vi) A A1027 := eA1027 ▸ Fx_n hV1016 rfl
                        have hK1034 : Fx [29, 30, 31] (pc0) A A1027 := eA1027 ▸ Fx_a hK1017 (z := pc0) (by omega) (by omega)
                        have ec1035 : ecn A1027 (G1000 31) = ec := (ecn_e ((congrFun eA1027 15).trans (uA_ne (by decide)))).trans ec1018
                        refine jx_ar (pc' := 123) (st' := [.int (i32 (0))]) rfl rfl rfl rfl ?_
                        refine jx_ld (pc' := 124) (l' := jSto1 L842 2 (.int (i32 (0)))) (st' := []) rfl rfl ?_
                        obtain ⟨L1036, eL1036⟩ : ∃ q, q = jSto1 L842 2 (.int (i32 (0))) := ⟨_, rfl⟩
                        rw [← eL1036]
                        have gL1036_0 : jGet L1036 0 = some (.ref 66) := eL1036 ▸ jg_ne (by decide) gL842_0 rfl
                        have gL1036_1 : jGet L1036 1 = some (.int (i32 (sy))) := eL1036 ▸ jg_ne (by decide) gL842_1 rfl
                        have gL1036_2 : jGet L1036 2 = some (.int (i32 (0))) := eL1036 ▸ jg_eq
                        refine jx_ld (pc' := 125) (l' := L1036) (st' := [.ref 66]) rfl (jl_aloadn gL1036_0) ?_
                        refine jx_vr (pc' := 128) (as := []) (st := []) rfl rfl rfl rfl ⟨rfl, rfl, Nat.le_of_ble_eq_true rfl⟩ rfl rfl (c_bad (dd := d) (hd := by omega) (hW := hW1028)  (fk := fk2_1004) (e_fk := show G1000 16 = fk2_1004 from (e1009))    ) (fun o V' hq => ?_)
                        obtain ⟨r1037, rfl, rfl, b1038, q1039⟩ := hq
                        refine .inr ⟨_, rfl, ?_⟩
                        rcases q1039 with ⟨rfl, a1040⟩ | ⟨rfl, a1041⟩
                        · have _q : True := trivial
                          refine jx_if_ne (pc' := 131) (tg := 144) rfl rfl rfl (by decide) (by decide) (fun h1042 => ?_) (fun h1042 => ?_)
                          · have _q := h1042
                            refine jx_ar (pc' := 145) (st' := [.int (i32 (0))]) rfl rfl rfl rfl ?_
                            refine jx_ld (pc' := 146) (l' := jSto1 L1036 3 (.int (i32 (0)))) (st' := []) rfl rfl ?_
                            obtain ⟨L1043, eL1043⟩ : ∃ q, q = jSto1 L1036 3 (.int (i32 (0))) := ⟨_, rfl⟩
                            rw [← eL1043]
                            have gL1043_0 : jGet L1043 0 = some (.ref 66) := eL1043 ▸ jg_ne (by decide) gL1036_0 rfl
                            have gL1043_1 : jGet L1043 1 = some (.int (i32 (sy))) := eL1043 ▸ jg_ne (by decide) gL1036_1 rfl
                            have gL1043_2 : jGet L1043 2 = some (.int (i32 (0))) := eL1043 ▸ jg_ne (by decide) gL1036_2 rfl
                            have gL1043_3 : jGet L1043 3 = some (.int (i32 (0))) := eL1043 ▸ jg_eq
                            refine jx_ld (pc' := 147) (l' := L1043) (st' := [.ref 66]) rfl (jl_aloadn gL1043_0) ?_
                            refine jx_vr (pc' := 150) (as := []) (st := []) rfl rfl rfl rfl ⟨rfl, rfl, Nat.le_of_ble_eq_true rfl⟩ rfl rfl (c_bad (dd := d) (hd := by omega) (hW := hW1028)  (fk := fk2_1004) (e_fk := show G1000 16 = fk2_1004 from (e1009))    ) (fun o V' hq => ?_)
                            obtain ⟨r1044, rfl, rfl, b1045, q1046⟩ := hq
                            refine .inr ⟨_, rfl, ?_⟩
                            rcases q1046 with ⟨rfl, a1047⟩ | ⟨rfl, a1048⟩
                            · have _q : True := trivial
                              refine jx_if_ne (pc' := 153) (tg := 212) rfl rfl rfl (by decide) (by decide) (fun h1049 => ?_) (fun h1049 => ?_)
                              · have _q := h1049
                                exact c_readProc_w_at_212p (X := X) (d := d) (Vs := Vs) (sb := sb) (pb := pb) (hvb := hvb) (c0 := c0) (c1 := c1) (G := G) (A := A) (T := T) (ln := ln) (li := li) (at0 := at0) (fk := fk) (nd := nd) (sy := sy) (na := na) (vi := vi) (le := le) (op0 := op0) (tk0 := tk0) (pc0 := pc0) (ec := ec) (hd := hd) (hW := hW) (e_ln := e_ln) (e_li := e_li) (e_at0 := e_at0) (e_fk := e_fk) (e_nd := e_nd) (e_sy := e_sy) (e_na := e_na) (e_vi := e_vi) (e_le := e_le) (e_op0 := e_op0) (e_tk0 := e_tk0) (e_pc0 := e_pc0) (e_ec := e_ec) (i_LT := i_LT) (i_SV := i_SV) (i_PQ := i_PQ) (p_0 := p_0) (p_1 := p_1) (p_2 := p_2) (p_3 := p_3) (p_4 := p_4) (p_5 := p_5) (p_6 := p_6) (p_7 := p_7) (p_8 := p_8) (p_9 := p_9) L1043 G1000 A1027 (sy) (0) (at2_1002) (fk2_1004) (sy2_811) (na2_812) gL1043_0 gL1043_1 gL1043_2 hW1028 hF1029 hP1031 hS1032 hV1033 hK1034 ((e1007)) ((e1009)) (((hF1006.1 19 rfl).trans ((hF864.1 19 rfl).trans (e819)))) (((hF1006.1 28 rfl).trans ((hF864.1 28 rfl).trans (e820)))) (((hF1006.1 9 rfl).trans ((hF864.1 9 rfl).trans ((hF816.1 9 rfl).trans ((hF778.1 9 rfl).trans (e_ln)))))) (((hF1006.1 29 rfl).trans ((hF864.1 29 rfl).trans ((hF816.1 29 rfl).trans ((hF778.1 29 rfl).trans (e_vi)))))) (((hF1006.1 46 rfl).trans ((hF864.1 46 rfl).trans ((hF816.1 46 rfl).trans ((hF778.1 46 rfl).trans (e_pc0)))))) (((hF1006.1 31 rfl).trans ((hF864.1 31 rfl).trans ((hF816.1 31 rfl).trans ((hF778.1 31 rfl).trans (e_nd)))))) (ec1035) (by omega) (by omega) (by omega) (by omega) (by omega) (by omega) (by omega) (by omega) (by omega)
                              · have _q := h1049
                                exact absurd h1049 (by omega)
                            · have _q : True := trivial
                              exfalso
                              omega
                          · have _q := h1042
                            exact absurd h1042 (by omega)
                        · have _q : True := trivial
                          exfalso
                          omega
                      · have _q : True := trivial
                        have pz1050 : at2_860 + tz tk2_1003 ≤ at2_1002 := by omega
                        refine jx_ld (pc' := 110) (l' := L842) (st' := [.ref 66]) rfl (jl_aloadn gL842_0) ?_
                        refine jr_get (pc' := 113) (i := 47) (v := .ref 96) rfl rfl (by decide) rfl rfl ?_
                        refine jx_ld (pc' := 114) (l' := L842) (st' := [.ref 66, .ref 96]) rfl (jl_aloadn gL842_0) ?_
                        refine jr_get (pc' := 117) (i := 46) (v := .int (i32 (pc0))) rfl rfl (by decide) (rFv_eq (by decide) (show G1000 46 = pc0 from ((hF1006.1 46 rfl).trans ((hF864.1 46 rfl).trans ((hF816.1 46 rfl).trans ((hF778.1 46 rfl).trans (e_pc0))))))) rfl ?_
                        refine jx_ld (pc' := 118) (l' := L842) (st' := [.ref 66, .int (i32 (pc0)), .ref 96]) rfl (jl_aloadn gL842_0) ?_
                        refine jr_get (pc' := 121) (i := 19) (v := .int (i32 (sy2_811))) rfl rfl (by decide) (rFv_eq (by decide) (show G1000 19 = sy2_811 from ((hF1006.1 19 rfl).trans ((hF864.1 19 rfl).trans (e819))))) rfl ?_
                        refine jr_st (pc' := 122) (i := 29) (m := 25) (z := pc0) (y := sy2_811) rfl (by decide) rfl (by decide) (by omega) (by omega) rfl ?_
                        have hW1052 : Wk G1000 (uA A1001 29 (pc0).toNat (sy2_811)) := Wk_a hW1005 (show (0 : Int) ≤ sy2_811 by omega) (show sy2_811 ≤ (202 : Int) by omega)
                        have hF1053 := Fr_a (z := sy2_811) (k := 29) (n := (pc0).toNat) hF1013 (by decide)
                        obtain ⟨A1051, eA1051⟩ : ∃ q, q = uA A1001 29 (pc0).toNat (sy2_811) := ⟨_, rfl⟩
                        rw [← eA1051]
                        rw [← eA1051] at hW1052 hF1053
                        have q1054 : A1051 29 (pc0).toNat = sy2_811 := by rw [eA1051]; exact uA_eq
                        have hP1055 : Pf nd A A1051 := eA1051 ▸ Pf_n hP1014 rfl
                        have hS1056 : Fx sr (sy) A A1051 := eA1051 ▸ Fx_n hS1015 rfl
                        have hV1057 : Fx [14] (vi) A A1051 := eA1051 ▸ Fx_n hV1016 rfl
                        have hK1058 : Fx [29, 30, 31] (pc0) A A1051 := eA1051 ▸ Fx_a hK1017 (z := pc0) (by omega) (by omega)
                        have ec1059 : ecn A1051 (G1000 31) = ec := (ecn_e ((congrFun eA1051 15).trans (uA_ne (by decide)))).trans ec1018
                        refine jx_ar (pc' := 123) (st' := [.int (i32 (0))]) rfl rfl rfl rfl ?_
                        refine jx_ld (pc' := 124) (l' := jSto1 L842 2 (.int (i32 (0)))) (st' := []) rfl rfl ?_
                        obtain ⟨L1060, eL1060⟩ : ∃ q, q = jSto1 L842 2 (.int (i32 (0))) := ⟨_, rfl⟩
                        rw [← eL1060]
                        have gL1060_0 : jGet L1060 0 = some (.ref 66) := eL1060 ▸ jg_ne (by decide) gL842_0 rfl
                        have gL1060_1 : jGet L1060 1 = some (.int (i32 (sy))) := eL1060 ▸ jg_ne (by decide) gL842_1 rfl
                        have gL1060_2 : jGet L1060 2 = some (.int (i32 (0))) := eL1060 ▸ jg_eq
                        refine jx_ld (pc' := 125) (l' := L1060) (st' := [.ref 66]) rfl (jl_aloadn gL1060_0) ?_
                        refine jx_vr (pc' := 128) (as := []) (st := []) rfl rfl rfl rfl ⟨rfl, rfl, Nat.le_of_ble_eq_true rfl⟩ rfl rfl (c_bad (dd := d) (hd := by omega) (hW := hW1052)  (fk := fk2_1004) (e_fk := show G1000 16 = fk2_1004 from (e1009))    ) (fun o V' hq => ?_)
                        obtain ⟨r1061, rfl, rfl, b1062, q1063⟩ := hq
                        refine .inr ⟨_, rfl, ?_⟩
                        rcases q1063 with ⟨rfl, a1064⟩ | ⟨rfl, a1065⟩
                        · have _q : True := trivial
                          exfalso
                          omega
                        · have _q : True := trivial
                          refine jx_if_ne (pc' := 131) (tg := 144) rfl rfl rfl (by decide) (by decide) (fun h1066 => ?_) (fun h1066 => ?_)
                          · have _q := h1066
                            exact absurd h1066 (by omega)
                          · have _q := h1066
                            refine jx_ld (pc' := 132) (l' := L1060) (st' := [.ref 66]) rfl (jl_aloadn gL1060_0) ?_
                            refine jx_ar (pc' := 134) (st' := [.int (i32 (41)), .ref 66]) rfl rfl rfl rfl ?_
                            have b1067 : (-2147483648 : Int) ≤ G1000 13 ∧ G1000 13 ≤ 2147483647 := hW1005.1 13
                            refine jx_vr (pc' := 137) (as := [.int (i32 (41))]) (st := []) rfl rfl rfl rfl ⟨rfl, rfl, Nat.le_of_ble_eq_true rfl⟩ rfl rfl (c_is (dd := d) (hd := by omega) (hW := hW1052) (k := 41) (tk := tk2_1003) (e_tk := show G1000 11 = tk2_1003 from (e1008)) (tn := G1000 13) (e_tn := show G1000 13 = G1000 13 from rfl)  (h_k := ⟨(by decide), (by decide)⟩)  ) (fun o V' hq => ?_)
                            obtain ⟨r1068, rfl, rfl, b1069, q1070⟩ := hq
                            refine .inr ⟨_, rfl, ?_⟩
                            rcases q1070 with ⟨rfl, a1071, a1072, a1073⟩ | rfl
                            · have _q : True := trivial
                              refine jx_if_ne (pc' := 140) (tg := 144) rfl rfl rfl (by decide) (by decide) (fun h1074 => ?_) (fun h1074 => ?_)
                              · have _q := h1074
                                refine jx_ar (pc' := 145) (st' := [.int (i32 (0))]) rfl rfl rfl rfl ?_
                                refine jx_ld (pc' := 146) (l' := jSto1 L1060 3 (.int (i32 (0)))) (st' := []) rfl rfl ?_
                                obtain ⟨L1075, eL1075⟩ : ∃ q, q = jSto1 L1060 3 (.int (i32 (0))) := ⟨_, rfl⟩
                                rw [← eL1075]
                                have gL1075_0 : jGet L1075 0 = some (.ref 66) := eL1075 ▸ jg_ne (by decide) gL1060_0 rfl
                                have gL1075_1 : jGet L1075 1 = some (.int (i32 (sy))) := eL1075 ▸ jg_ne (by decide) gL1060_1 rfl
                                have gL1075_2 : jGet L1075 2 = some (.int (i32 (0))) := eL1075 ▸ jg_ne (by decide) gL1060_2 rfl
                                have gL1075_3 : jGet L1075 3 = some (.int (i32 (0))) := eL1075 ▸ jg_eq
                                exact c_readProc_w_at_146 (X := X) (d := d) (Vs := Vs) (sb := sb) (pb := pb) (hvb := hvb) (c0 := c0) (c1 := c1) (G := G) (A := A) (T := T) (ln := ln) (li := li) (at0 := at0) (fk := fk) (nd := nd) (sy := sy) (na := na) (vi := vi) (le := le) (op0 := op0) (tk0 := tk0) (pc0 := pc0) (ec := ec) (hd := hd) (hW := hW) (e_ln := e_ln) (e_li := e_li) (e_at0 := e_at0) (e_fk := e_fk) (e_nd := e_nd) (e_sy := e_sy) (e_na := e_na) (e_vi := e_vi) (e_le := e_le) (e_op0 := e_op0) (e_tk0 := e_tk0) (e_pc0 := e_pc0) (e_ec := e_ec) (i_LT := i_LT) (i_SV := i_SV) (i_PQ := i_PQ) (p_0 := p_0) (p_1 := p_1) (p_2 := p_2) (p_3 := p_3) (p_4 := p_4) (p_5 := p_5) (p_6 := p_6) (p_7 := p_7) (p_8 := p_8) (p_9 := p_9) _ L1075 G1000 A1051 (sy) (0) (0) (at2_1002) (tk2_1003) (fk2_1004) (sy2_811) (na2_812) (sy2_811) (yk2_814) (pc0) rfl gL1075_0 gL1075_1 gL1075_2 gL1075_3 hW1052 hF1053 hP1055 hS1056 hV1057 hK1058 ((e1007)) ((e1008)) ((e1009)) (((hF1006.1 19 rfl).trans ((hF864.1 19 rfl).trans (e819)))) (((hF1006.1 28 rfl).trans ((hF864.1 28 rfl).trans (e820)))) ((q1054)) ((congrFun (((congrFun eA1051 7).trans (uA_ne (by decide))).trans ((hF1006.2 7 rfl).trans ((hF864.2 7 rfl).trans ((congrFun eA849 7).trans (uA_ne (by decide)))))) _).trans (e822)) ((congrFun (((congrFun eA1051 12).trans (uA_ne (by decide))).trans ((hF1006.2 12 rfl).trans (hF864.2 12 rfl))) _).trans (q852)) (((hF1006.1 9 rfl).trans ((hF864.1 9 rfl).trans ((hF816.1 9 rfl).trans ((hF778.1 9 rfl).trans (e_ln)))))) (((hF1006.1 29 rfl).trans ((hF864.1 29 rfl).trans ((hF816.1 29 rfl).trans ((hF778.1 29 rfl).trans (e_vi)))))) (((hF1006.1 46 rfl).trans ((hF864.1 46 rfl).trans ((hF816.1 46 rfl).trans ((hF778.1 46 rfl).trans (e_pc0)))))) (((hF1006.1 31 rfl).trans ((hF864.1 31 rfl).trans ((hF816.1 31 rfl).trans ((hF778.1 31 rfl).trans (e_nd)))))) (ec1059) (by omega) (by omega) (by omega) (by omega) (by omega) (by omega) (by omega) (by omega) (by omega) (by omega) (by omega) (wM_nil) (by omega) (by omega) (by omega) (by omega) (by omega)
                              · have _q := h1074
                                exact absurd h1074 (by omega)
                            · have _q : True := trivial
                              refine jx_if_ne (pc' := 140) (tg := 144) rfl rfl rfl (by decide) (by decide) (fun h1076 => ?_) (fun h1076 => ?_)
                              · have _q := h1076
                                exact absurd h1076 (by omega)
                              · have _q := h1076
                                refine jx_ar (pc' := 141) (st' := [.int (i32 (1))]) rfl rfl rfl rfl ?_
                                refine jx_go (tg := 145) rfl rfl ?_
                                refine jx_ld (pc' := 146) (l' := jSto1 L1060 3 (.int (i32 (1)))) (st' := []) rfl rfl ?_
                                obtain ⟨L1077, eL1077⟩ : ∃ q, q = jSto1 L1060 3 (.int (i32 (1))) := ⟨_, rfl⟩
                                rw [← eL1077]
                                have gL1077_0 : jGet L1077 0 = some (.ref 66) := eL1077 ▸ jg_ne (by decide) gL1060_0 rfl
                                have gL1077_1 : jGet L1077 1 = some (.int (i32 (sy))) := eL1077 ▸ jg_ne (by decide) gL1060_1 rfl
                                have gL1077_2 : jGet L1077 2 = some (.int (i32 (0))) := eL1077 ▸ jg_ne (by decide) gL1060_2 rfl
                                have gL1077_3 : jGet L1077 3 = some (.int (i32 (1))) := eL1077 ▸ jg_eq
                                exact c_readProc_w_at_146 (X := X) (d := d) (Vs := Vs) (sb := sb) (pb := pb) (hvb := hvb) (c0 := c0) (c1 := c1) (G := G) (A := A) (T := T) (ln := ln) (li := li) (at0 := at0) (fk := fk) (nd := nd) (sy := sy) (na := na) (vi := vi) (le := le) (op0 := op0) (tk0 := tk0) (pc0 := pc0) (ec := ec) (hd := hd) (hW := hW) (e_ln := e_ln) (e_li := e_li) (e_at0 := e_at0) (e_fk := e_fk) (e_nd := e_nd) (e_sy := e_sy) (e_na := e_na) (e_vi := e_vi) (e_le := e_le) (e_op0 := e_op0) (e_tk0 := e_tk0) (e_pc0 := e_pc0) (e_ec := e_ec) (i_LT := i_LT) (i_SV := i_SV) (i_PQ := i_PQ) (p_0 := p_0) (p_1 := p_1) (p_2 := p_2) (p_3 := p_3) (p_4 := p_4) (p_5 := p_5) (p_6 := p_6) (p_7 := p_7) (p_8 := p_8) (p_9 := p_9) _ L1077 G1000 A1051 (sy) (0) (1) (at2_1002) (tk2_1003) (fk2_1004) (sy2_811) (na2_812) (sy2_811) (yk2_814) (pc0) rfl gL1077_0 gL1077_1 gL1077_2 gL1077_3 hW1052 hF1053 hP1055 hS1056 hV1057 hK1058 ((e1007)) ((e1008)) ((e1009)) (((hF1006.1 19 rfl).trans ((hF864.1 19 rfl).trans (e819)))) (((hF1006.1 28 rfl).trans ((hF864.1 28 rfl).trans (e820)))) ((q1054)) ((congrFun (((congrFun eA1051 7).trans (uA_ne (by decide))).trans ((hF1006.2 7 rfl).trans ((hF864.2 7 rfl).trans ((congrFun eA849 7).trans (uA_ne (by decide)))))) _).trans (e822)) ((congrFun (((congrFun eA1051 12).trans (uA_ne (by decide))).trans ((hF1006.2 12 rfl).trans (hF864.2 12 rfl))) _).trans (q852)) (((hF1006.1 9 rfl).trans ((hF864.1 9 rfl).trans ((hF816.1 9 rfl).trans ((hF778.1 9 rfl).trans (e_ln)))))) (((hF1006.1 29 rfl).trans ((hF864.1 29 rfl).trans ((hF816.1 29 rfl).trans ((hF778.1 29 rfl).trans (e_vi)))))) (((hF1006.1 46 rfl).trans ((hF864.1 46 rfl).trans ((hF816.1 46 rfl).trans ((hF778.1 46 rfl).trans (e_pc0)))))) (((hF1006.1 31 rfl).trans ((hF864.1 31 rfl).trans ((hF816.1 31 rfl).trans ((hF778.1 31 rfl).trans (e_nd)))))) (ec1059) (by omega) (by omega) (by omega) (by omega) (by omega) (by omega) (by omega) (by omega) (by omega) (by omega) (by omega) (wM_nil) (by omega) (by omega) (by omega) (by omega) (by omega)
                    · have _q : True := trivial
                      refine jx_vr (pc' := 109) (as := [.int (i32 (0))]) (st := []) rfl rfl rfl rfl ⟨rfl, rfl, Nat.le_of_ble_eq_true rfl⟩ rfl rfl (c_need (dd := d) (hd := by omega) (hW := hW863) (g := 0) (ln := ln) (e_ln := show G858 9 = ln from ((hF864.1 9 rfl).trans ((hF816.1 9 rfl).trans ((hF778.1 9 rfl).trans (e_ln))))) (le := le) (e_le := show A859 4 (ln).toNat = le from (congrFun ((hF864.2 4 rfl).trans (((congrFun eA849 4).trans (uA_ne (by decide))).trans ((hF816.2 4 rfl).trans (hF778.2 4 rfl)))) _).trans (e_le)) (at0 := at2_860) (e_at0 := show G858 10 = at2_860 from (e865)) (fk := fk2_862) (e_fk := show G858 16 = fk2_862 from (e867)) (tk0 := tk2_861) (e_tk0 := show G858 11 = tk2_861 from (e866))  (h_g := ⟨(by decide), (by decide)⟩)  (p_0 := by omega)) (fun o V' hq => ?_)
                      obtain ⟨G1078, A1079, at2_1080, tk2_1081, fk2_1082, rfl, rfl, hW1083, hF1084, e1085, e1086, e1087, p1088, p1089, q1090⟩ := hq
                      have hF1091 := Fr_tr hF871 hF1084 (Fr_sub (by decide)) (Fr_sub (by decide))
                      have hP1092 := Pf_f hP872 hF1084 (by decide)
                      have hS1093 := Fx_f hS873 hF1084 (by decide)
                      have hV1094 := Fx_f hV874 hF1084 (by decide)
                      have hK1095 := Fx_f hK875 hF1084 (by decide)
                      have ec1096 : ecn A1079 (G1078 31) = ec := (ecn_f (hF1084.2 15 rfl) (hF1084.1 31 rfl)).trans ec876
                      have bat2_1080 : (0 : Int) ≤ at2_1080 ∧ at2_1080 ≤ 3002 := e1085 ▸ hW1083.1 10
                      have ztk2_1081 := tz_b tk2_1081
                      have btk2_1081 : (0 : Int) ≤ tk2_1081 ∧ tk2_1081 ≤ 5 := e1086 ▸ hW1083.1 11
                      have bfk2_1082 : (0 : Int) ≤ fk2_1082 ∧ fk2_1082 ≤ 6 := e1087 ▸ hW1083.1 16
                      refine .inl ⟨rfl, ?_⟩
                      rcases q1090 with ⟨a1097, a1098, a1099, a1100⟩ | ⟨a1101, a1102, a1103, a1104⟩
                      · have _q : True := trivial
                        refine jx_ld (pc' := 110) (l' := L842) (st' := [.ref 66]) rfl (jl_aloadn gL842_0) ?_
                        refine jr_get (pc' := 113) (i := 47) (v := .ref 96) rfl rfl (by decide) rfl rfl ?_
                        refine jx_ld (pc' := 114) (l' := L842) (st' := [.ref 66, .ref 96]) rfl (jl_aloadn gL842_0) ?_
                        refine jr_get (pc' := 117) (i := 46) (v := .int (i32 (pc0))) rfl rfl (by decide) (rFv_eq (by decide) (show G1078 46 = pc0 from ((hF1084.1 46 rfl).trans ((hF864.1 46 rfl).trans ((hF816.1 46 rfl).trans ((hF778.1 46 rfl).trans (e_pc0))))))) rfl ?_
                        refine jx_ld (pc' := 118) (l' := L842) (st' := [.ref 66, .int (i32 (pc0)), .ref 96]) rfl (jl_aloadn gL842_0) ?_
                        refine jr_get (pc' := 121) (i := 19) (v := .int (i32 (sy2_811))) rfl rfl (by decide) (rFv_eq (by decide) (show G1078 19 = sy2_811 from ((hF1084.1 19 rfl).trans ((hF864.1 19 rfl).trans (e819))))) rfl ?_
                        refine jr_st (pc' := 122) (i := 29) (m := 25) (z := pc0) (y := sy2_811) rfl (by decide) rfl (by decide) (by omega) (by omega) rfl ?_
                        have hW1106 : Wk G1078 (uA A1079 29 (pc0).toNat (sy2_811)) := Wk_a hW1083 (show (0 : Int) ≤ sy2_811 by omega) (show sy2_811 ≤ (202 : Int) by omega)
                        have hF1107 := Fr_a (z := sy2_811) (k := 29) (n := (pc0).toNat) hF1091 (by decide)
                        obtain ⟨A1105, eA1105⟩ : ∃ q, q = uA A1079 29 (pc0).toNat (sy2_811) := ⟨_, rfl⟩
                        rw [← eA1105]
                        rw [← eA1105] at hW1106 hF1107
                        have q1108 : A1105 29 (pc0).toNat = sy2_811 := by rw [eA1105]; exact uA_eq
                        have hP1109 : Pf nd A A1105 := eA1105 ▸ Pf_n hP1092 rfl
                        have hS1110 : Fx sr (sy) A A1105 := eA1105 ▸ Fx_n hS1093 rfl
                        have hV1111 : Fx [14] (vi) A A1105 := eA1105 ▸ Fx_n hV1094 rfl
                        have hK1112 : Fx [29, 30, 31] (pc0) A A1105 := eA1105 ▸ Fx_a hK1095 (z := pc0) (by omega) (by omega)
                        have ec1113 : ecn A1105 (G1078 31) = ec := (ecn_e ((congrFun eA1105 15).trans (uA_ne (by decide)))).trans ec1096
                        refine jx_ar (pc' := 123) (st' := [.int (i32 (0))]) rfl rfl rfl rfl ?_
                        refine jx_ld (pc' := 124) (l' := jSto1 L842 2 (.int (i32 (0)))) (st' := []) rfl rfl ?_
                        obtain ⟨L1114, eL1114⟩ : ∃ q, q = jSto1 L842 2 (.int (i32 (0))) := ⟨_, rfl⟩
                        rw [← eL1114]
                        have gL1114_0 : jGet L1114 0 = some (.ref 66) := eL1114 ▸ jg_ne (by decide) gL842_0 rfl
                        have gL1114_1 : jGet L1114 1 = some (.int (i32 (sy))) := eL1114 ▸ jg_ne (by decide) gL842_1 rfl
                        have gL1114_2 : jGet L1114 2 = some (.int (i32 (0))) := eL1114 ▸ jg_eq
                        refine jx_ld (pc' := 125) (l' := L1114) (st' := [.ref 66]) rfl (jl_aloadn gL1114_0) ?_
                        refine jx_vr (pc' := 128) (as := []) (st := []) rfl rfl rfl rfl ⟨rfl, rfl, Nat.le_of_ble_eq_true rfl⟩ rfl rfl (c_bad (dd := d) (hd := by omega) (hW := hW1106)  (fk := fk2_1082) (e_fk := show G1078 16 = fk2_1082 from (e1087))    ) (fun o V' hq => ?_)
                        obtain ⟨r1115, rfl, rfl, b1116, q1117⟩ := hq
                        refine .inr ⟨_, rfl, ?_⟩
                        rcases q1117 with ⟨rfl, a1118⟩ | ⟨rfl, a1119⟩
                        · have _q : True := trivial
                          refine jx_if_ne (pc' := 131) (tg := 144) rfl rfl rfl (by decide) (by decide) (fun h1120 => ?_) (fun h1120 => ?_)
                          · have _q := h1120
                            refine jx_ar (pc' := 145) (st' := [.int (i32 (0))]) rfl rfl rfl rfl ?_
                            refine jx_ld (pc' := 146) (l' := jSto1 L1114 3 (.int (i32 (0)))) (st' := []) rfl rfl ?_
                            obtain ⟨L1121, eL1121⟩ : ∃ q, q = jSto1 L1114 3 (.int (i32 (0))) := ⟨_, rfl⟩
                            rw [← eL1121]
                            have gL1121_0 : jGet L1121 0 = some (.ref 66) := eL1121 ▸ jg_ne (by decide) gL1114_0 rfl
                            have gL1121_1 : jGet L1121 1 = some (.int (i32 (sy))) := eL1121 ▸ jg_ne (by decide) gL1114_1 rfl
                            have gL1121_2 : jGet L1121 2 = some (.int (i32 (0))) := eL1121 ▸ jg_ne (by decide) gL1114_2 rfl
                            have gL1121_3 : jGet L1121 3 = some (.int (i32 (0))) := eL1121 ▸ jg_eq
                            refine jx_ld (pc' := 147) (l' := L1121) (st' := [.ref 66]) rfl (jl_aloadn gL1121_0) ?_
                            refine jx_vr (pc' := 150) (as := []) (st := []) rfl rfl rfl rfl ⟨rfl, rfl, Nat.le_of_ble_eq_true rfl⟩ rfl rfl (c_bad (dd := d) (hd := by omega) (hW := hW1106)  (fk := fk2_1082) (e_fk := show G1078 16 = fk2_1082 from (e1087))    ) (fun o V' hq => ?_)
                            obtain ⟨r1122, rfl, rfl, b1123, q1124⟩ := hq
                            refine .inr ⟨_, rfl, ?_⟩
                            rcases q1124 with ⟨rfl, a1125⟩ | ⟨rfl, a1126⟩
                            · have _q : True := trivial
                              refine jx_if_ne (pc' := 153) (tg := 212) rfl rfl rfl (by decide) (by decide) (fun h1127 => ?_) (fun h1127 => ?_)
                              · have _q := h1127
                                exact c_readProc_w_at_212p (X := X) (d := d) (Vs := Vs) (sb := sb) (pb := pb) (hvb := hvb) (c0 := c0) (c1 := c1) (G := G) (A := A) (T := T) (ln := ln) (li := li) (at0 := at0) (fk := fk) (nd := nd) (sy := sy) (na := na) (vi := vi) (le := le) (op0 := op0) (tk0 := tk0) (pc0 := pc0) (ec := ec) (hd := hd) (hW := hW) (e_ln := e_ln) (e_li := e_li) (e_at0 := e_at0) (e_fk := e_fk) (e_nd := e_nd) (e_sy := e_sy) (e_na := e_na) (e_vi := e_vi) (e_le := e_le) (e_op0 := e_op0) (e_tk0 := e_tk0) (e_pc0 := e_pc0) (e_ec := e_ec) (i_LT := i_LT) (i_SV := i_SV) (i_PQ := i_PQ) (p_0 := p_0) (p_1 := p_1) (p_2 := p_2) (p_3 := p_3) (p_4 := p_4) (p_5 := p_5) (p_6 := p_6) (p_7 := p_7) (p_8 := p_8) (p_9 := p_9) L1121 G1078 A1105 (sy) (0) (at2_1080) (fk2_1082) (sy2_811) (na2_812) gL1121_0 gL1121_1 gL1121_2 hW1106 hF1107 hP1109 hS1110 hV1111 hK1112 ((e1085)) ((e1087)) (((hF1084.1 19 rfl).trans ((hF864.1 19 rfl).trans (e819)))) (((hF1084.1 28 rfl).trans ((hF864.1 28 rfl).trans (e820)))) (((hF1084.1 9 rfl).trans ((hF864.1 9 rfl).trans ((hF816.1 9 rfl).trans ((hF778.1 9 rfl).trans (e_ln)))))) (((hF1084.1 29 rfl).trans ((hF864.1 29 rfl).trans ((hF816.1 29 rfl).trans ((hF778.1 29 rfl).trans (e_vi)))))) (((hF1084.1 46 rfl).trans ((hF864.1 46 rfl).trans ((hF816.1 46 rfl).trans ((hF778.1 46 rfl).trans (e_pc0)))))) (((hF1084.1 31 rfl).trans ((hF864.1 31 rfl).trans ((hF816.1 31 rfl).trans ((hF778.1 31 rfl).trans (e_nd)))))) (ec1113) (by omega) (by omega) (by omega) (by omega) (by omega) (by omega) (by omega) (by omega) (by omega)
                              · have _q := h1127
                                exact absurd h1127 (by omega)
                            · have _q : True := trivial
                              exfalso
                              omega
                          · have _q := h1120
                            exact absurd h1120 (by omega)
                        · have _q : True := trivial
                          exfalso
                          omega
                      · have _q : True := trivial
                        exfalso
                        omega
                · have _q := h848
                  exact absurd h848 (by omega)
            · have _q : True := trivial
              refine jx_ld (pc' := 76) (l' := jSto1 [(0, .ref 66)] 1 (.int (i32 (0)))) (st' := []) rfl rfl ?_
              obtain ⟨L1128, eL1128⟩ : ∃ q, q = jSto1 [(0, .ref 66)] 1 (.int (i32 (0))) := ⟨_, rfl⟩
              rw [← eL1128]
              have gL1128_0 : jGet L1128 0 = some (.ref 66) := eL1128 ▸ jg_ne (by decide) (rfl : jGet [(0, .ref 66)] 0 = some (.ref 66)) rfl
              have gL1128_1 : jGet L1128 1 = some (.int (i32 (0))) := eL1128 ▸ jg_eq
              refine jx_ld (pc' := 77) (l' := L1128) (st' := [.ref 66]) rfl (jl_aloadn gL1128_0) ?_
              refine jx_vr (pc' := 80) (as := []) (st := []) rfl rfl rfl rfl ⟨rfl, rfl, Nat.le_of_ble_eq_true rfl⟩ rfl rfl (c_bad (dd := d) (hd := by omega) (hW := hW815)  (fk := fk2_813) (e_fk := show G808 16 = fk2_813 from (e821))    ) (fun o V' hq => ?_)
              obtain ⟨r1129, rfl, rfl, b1130, q1131⟩ := hq
              refine .inr ⟨_, rfl, ?_⟩
              rcases q1131 with ⟨rfl, a1132⟩ | ⟨rfl, a1133⟩
              · have _q : True := trivial
                refine jx_if_eq (pc' := 83) (tg := 84) rfl rfl rfl (by decide) (by decide) (fun h1134 => ?_) (fun h1134 => ?_)
                · have _q := h1134
                  exact absurd h1134 (by omega)
                · have _q := h1134
                  refine jx_rt (v := none) rfl rfl rfl rfl rfl rfl ?_
                  exact ⟨_, _, ln, at2_775, fk2_813, nd, sy2_811, na2_812, vi, A 3 (ln).toNat, pc0, ec, rfl, rfl, hW815, hF824, hP825, hS826, hV827, hK828, ((hF816.1 9 rfl).trans ((hF778.1 9 rfl).trans (e_ln))), ((hF816.1 10 rfl).trans (e779)), (e821), ((hF816.1 31 rfl).trans ((hF778.1 31 rfl).trans (e_nd))), (e819), (e820), ((hF816.1 29 rfl).trans ((hF778.1 29 rfl).trans (e_vi))), (congrFun ((hF816.2 3 rfl).trans (hF778.2 3 rfl)) _), ((hF816.1 46 rfl).trans ((hF778.1 46 rfl).trans (e_pc0))), ec831, by omega, by omega, by omega, by omega, by first | exact Or.inl (by omega)⟩
              · have _q : True := trivial
                exfalso
                omega
          · have _q := h807
            refine jx_ld (pc' := 59) (l' := [(0, .ref 66)]) (st' := [.ref 66]) rfl (jl_aloadn rfl) ?_
            refine jx_ar (pc' := 61) (st' := [.int (i32 (6)), .ref 66]) rfl rfl rfl rfl ?_
            refine jx_ld (pc' := 62) (l' := [(0, .ref 66)]) (st' := [.ref 66, .int (i32 (6)), .ref 66]) rfl (jl_aloadn rfl) ?_
            have b1135 : (-3000 : Int) ≤ G773 12 ∧ G773 12 ≤ 3002 := hW777.1 12
            refine jr_get (pc' := 65) (i := 12) (v := .int (i32 (G773 12))) rfl rfl (by decide) rfl rfl ?_
            refine jx_vr (pc' := 68) (as := [.int (i32 (6)), .int (i32 (G773 12))]) (st := []) rfl rfl rfl rfl ⟨rfl, rfl, Nat.le_of_ble_eq_true rfl⟩ rfl rfl (c_fail (dd := d) (hd := by omega) (hW := hW777) (kind := 6) (place := G773 12) (fk := fk) (e_fk := show G773 16 = fk from ((hF778.1 16 rfl).trans (e_fk)))  (h_kind := ⟨(by decide), (by decide)⟩) (h_place := ⟨(Int.le_trans (by decide : (-2147483648 : Int) ≤ -3000) b1135.1), (Int.le_trans b1135.2 (by decide : (3002 : Int) ≤ 2147483647))⟩)  (p_0 := by omega) (p_1 := by omega)) (fun o V' hq => ?_)
            obtain ⟨G1136, A1137, fk2_1138, rfl, rfl, hW1139, hF1140, e1141, p1142, -⟩ := hq
            have hF1144 := Fr_tr hF785 hF1140 (Fr_sub (by decide)) (Fr_sub (by decide))
            have hP1145 := Pf_f hP786 hF1140 (by decide)
            have hS1146 := Fx_f hS787 hF1140 (by decide)
            have hV1147 := Fx_f hV788 hF1140 (by decide)
            have hK1148 := Fx_f hK789 hF1140 (by decide)
            have sf1149 : wQ A1137 (pc0).toNat (nd) (sy) := (show A1137 = A774 from funext (fun k => hF1140.2 k rfl)) ▸ sf790
            have sf1150 : VT (Vs) A1137 (sy) := (show A1137 = A774 from funext (fun k => hF1140.2 k rfl)) ▸ sf791
            have ec1151 : ecn A1137 (G1136 31) = ec := (ecn_f (hF1140.2 15 rfl) (hF1140.1 31 rfl)).trans ec792
            have bfk2_1138 : (0 : Int) ≤ fk2_1138 ∧ fk2_1138 ≤ 6 := e1141 ▸ hW1139.1 16
            refine .inl ⟨rfl, ?_⟩
            refine jx_ld (pc' := 69) (l' := [(0, .ref 66)]) (st' := [.ref 66]) rfl (jl_aloadn rfl) ?_
            refine jx_ar (pc' := 71) (st' := [.int (i32 (14)), .ref 66]) rfl rfl rfl rfl ?_
            refine jx_ar (pc' := 72) (st' := [.int (i32 (0)), .int (i32 (14)), .ref 66]) rfl rfl rfl rfl ?_
            refine jx_vr (pc' := 75) (as := [.int (i32 (14)), .int (i32 (0))]) (st := []) rfl rfl rfl rfl ⟨rfl, rfl, Nat.le_of_ble_eq_true rfl⟩ rfl rfl (c_newName (dd := d) (hd := by omega) (hW := hW1139) (kind := 14) (many := 0) (sy := sy) (e_sy := show G1136 19 = sy from ((hF1140.1 19 rfl).trans ((hF778.1 19 rfl).trans (e_sy)))) (na := na) (e_na := show G1136 28 = na from ((hF1140.1 28 rfl).trans ((hF778.1 28 rfl).trans (e_na)))) (fk := fk2_1138) (e_fk := show G1136 16 = fk2_1138 from (e1141))  (h_kind := ⟨(by decide), (by decide)⟩) (h_many := ⟨(by decide), (by decide)⟩)  (p_0 := by omega) (p_1 := by omega)) (fun o V' hq => ?_)
            obtain ⟨G1152, A1153, r1154, sy2_1155, na2_1156, fk2_1157, yk2_1158, rfl, rfl, hW1159, hF1160, hQ1161, b1162, e1163, e1164, e1165, e1166, q1167⟩ := hq
            have hF1168 := Fr_tr hF1144 hF1160 (Fr_sub (by decide)) (Fr_sub (by decide))
            have hP1169 := Pf_f hP1145 hF1160 (by decide)
            have hS1170 := Fx_tr hS1146 hQ1161 (by omega)
            have hV1171 := Fx_f hV1147 hF1160 (by decide)
            have hK1172 := Fx_f hK1148 hF1160 (by decide)
            have sf1173 : wQ A1153 (pc0).toNat (nd) (sy) := wQ_fx (Pf_f Pf_rf hF1160 (by decide)) (Fx_su hQ1161 (by omega)) (Fx_su (Fx_f (w := pc0) Fx_rf hF1160 (by decide)) (by omega)) sf1149
            have sf1174 : VT (Vs) A1153 (sy) := VT_fx hQ1161 (by omega) sf1150
            have ec1175 : ecn A1153 (G1152 31) = ec := (ecn_f (hF1160.2 15 rfl) (hF1160.1 31 rfl)).trans ec1151
            have bsy2_1155 : (0 : Int) ≤ sy2_1155 ∧ sy2_1155 ≤ 202 := e1163 ▸ hW1159.1 19
            have bna2_1156 : (0 : Int) ≤ na2_1156 ∧ na2_1156 ≤ 200 := e1164 ▸ hW1159.1 28
            have bfk2_1157 : (0 : Int) ≤ fk2_1157 ∧ fk2_1157 ≤ 6 := e1165 ▸ hW1159.1 16
            have byk2_1158 : (0 : Int) ≤ yk2_1158 ∧ yk2_1158 ≤ 14 := e1166 ▸ hW1159.2 7 _
            refine .inr ⟨_, rfl, ?_⟩
            rcases q1167 with ⟨a1182, a1176, a1177, a1178, a1179, a1180, a1181⟩ | ⟨rfl, a1183, a1184, a1185⟩
            · have _q : True := trivial
              rw [a1182]
              exfalso
              omega
            · have _q : True := trivial
              refine jx_ld (pc' := 76) (l' := jSto1 [(0, .ref 66)] 1 (.int (i32 (0)))) (st' := []) rfl rfl ?_
              obtain ⟨L1186, eL1186⟩ : ∃ q, q = jSto1 [(0, .ref 66)] 1 (.int (i32 (0))) := ⟨_, rfl⟩
              rw [← eL1186]
              have gL1186_0 : jGet L1186 0 = some (.ref 66) := eL1186 ▸ jg_ne (by decide) (rfl : jGet [(0, .ref 66)] 0 = some (.ref 66)) rfl
              have gL1186_1 : jGet L1186 1 = some (.int (i32 (0))) := eL1186 ▸ jg_eq
              refine jx_ld (pc' := 77) (l' := L1186) (st' := [.ref 66]) rfl (jl_aloadn gL1186_0) ?_
              refine jx_vr (pc' := 80) (as := []) (st := []) rfl rfl rfl rfl ⟨rfl, rfl, Nat.le_of_ble_eq_true rfl⟩ rfl rfl (c_bad (dd := d) (hd := by omega) (hW := hW1159)  (fk := fk2_1157) (e_fk := show G1152 16 = fk2_1157 from (e1165))    ) (fun o V' hq => ?_)
              obtain ⟨r1187, rfl, rfl, b1188, q1189⟩ := hq
              refine .inr ⟨_, rfl, ?_⟩
              rcases q1189 with ⟨rfl, a1190⟩ | ⟨rfl, a1191⟩
              · have _q : True := trivial
                refine jx_if_eq (pc' := 83) (tg := 84) rfl rfl rfl (by decide) (by decide) (fun h1192 => ?_) (fun h1192 => ?_)
                · have _q := h1192
                  exact absurd h1192 (by omega)
                · have _q := h1192
                  refine jx_rt (v := none) rfl rfl rfl rfl rfl rfl ?_
                  exact ⟨_, _, ln, at2_775, fk2_1157, nd, sy2_1155, na2_1156, vi, A 3 (ln).toNat, pc0, ec, rfl, rfl, hW1159, hF1168, hP1169, hS1170, hV1171, hK1172, ((hF1160.1 9 rfl).trans ((hF1140.1 9 rfl).trans ((hF778.1 9 rfl).trans (e_ln)))), ((hF1160.1 10 rfl).trans ((hF1140.1 10 rfl).trans (e779))), (e1165), ((hF1160.1 31 rfl).trans ((hF1140.1 31 rfl).trans ((hF778.1 31 rfl).trans (e_nd)))), (e1163), (e1164), ((hF1160.1 29 rfl).trans ((hF1140.1 29 rfl).trans ((hF778.1 29 rfl).trans (e_vi)))), (congrFun ((hF1160.2 3 rfl).trans ((hF1140.2 3 rfl).trans (hF778.2 3 rfl))) _), ((hF1160.1 46 rfl).trans ((hF1140.1 46 rfl).trans ((hF778.1 46 rfl).trans (e_pc0)))), ec1175, by omega, by omega, by omega, by omega, by first | exact Or.inl (by omega)⟩
              · have _q : True := trivial
                exfalso
                omega
    · have _q := h800
      refine jx_ld (pc' := 34) (l' := [(0, .ref 66)]) (st' := [.ref 66]) rfl (jl_aloadn rfl) ?_
      refine jx_ar (pc' := 35) (st' := [.int (i32 (2)), .ref 66]) rfl rfl rfl rfl ?_
      refine jx_ld (pc' := 36) (l' := [(0, .ref 66)]) (st' := [.ref 66, .int (i32 (2)), .ref 66]) rfl (jl_aloadn rfl) ?_
      have b1193 : (-3000 : Int) ≤ G773 12 ∧ G773 12 ≤ 3002 := hW777.1 12
      refine jr_get (pc' := 39) (i := 12) (v := .int (i32 (G773 12))) rfl rfl (by decide) rfl rfl ?_
      refine jx_vr (pc' := 42) (as := [.int (i32 (2)), .int (i32 (G773 12))]) (st := []) rfl rfl rfl rfl ⟨rfl, rfl, Nat.le_of_ble_eq_true rfl⟩ rfl rfl (c_fail (dd := d) (hd := by omega) (hW := hW777) (kind := 2) (place := G773 12) (fk := fk) (e_fk := show G773 16 = fk from ((hF778.1 16 rfl).trans (e_fk)))  (h_kind := ⟨(by decide), (by decide)⟩) (h_place := ⟨(Int.le_trans (by decide : (-2147483648 : Int) ≤ -3000) b1193.1), (Int.le_trans b1193.2 (by decide : (3002 : Int) ≤ 2147483647))⟩)  (p_0 := by omega) (p_1 := by omega)) (fun o V' hq => ?_)
      obtain ⟨G1194, A1195, fk2_1196, rfl, rfl, hW1197, hF1198, e1199, p1200, -⟩ := hq
      have hF1202 := Fr_tr hF785 hF1198 (Fr_sub (by decide)) (Fr_sub (by decide))
      have hP1203 := Pf_f hP786 hF1198 (by decide)
      have hS1204 := Fx_f hS787 hF1198 (by decide)
      have hV1205 := Fx_f hV788 hF1198 (by decide)
      have hK1206 := Fx_f hK789 hF1198 (by decide)
      have sf1207 : wQ A1195 (pc0).toNat (nd) (sy) := (show A1195 = A774 from funext (fun k => hF1198.2 k rfl)) ▸ sf790
      have sf1208 : VT (Vs) A1195 (sy) := (show A1195 = A774 from funext (fun k => hF1198.2 k rfl)) ▸ sf791
      have ec1209 : ecn A1195 (G1194 31) = ec := (ecn_f (hF1198.2 15 rfl) (hF1198.1 31 rfl)).trans ec792
      have bfk2_1196 : (0 : Int) ≤ fk2_1196 ∧ fk2_1196 ≤ 6 := e1199 ▸ hW1197.1 16
      refine .inl ⟨rfl, ?_⟩
      refine jx_ld (pc' := 43) (l' := [(0, .ref 66)]) (st' := [.ref 66]) rfl (jl_aloadn rfl) ?_
      refine jx_vr (pc' := 46) (as := []) (st := []) rfl rfl rfl rfl ⟨rfl, rfl, Nat.le_of_ble_eq_true rfl⟩ rfl rfl (c_bad (dd := d) (hd := by omega) (hW := hW1197)  (fk := fk2_1196) (e_fk := show G1194 16 = fk2_1196 from (e1199))    ) (fun o V' hq => ?_)
      obtain ⟨r1210, rfl, rfl, b1211, q1212⟩ := hq
      refine .inr ⟨_, rfl, ?_⟩
      rcases q1212 with ⟨rfl, a1213⟩ | ⟨rfl, a1214⟩
      · have _q : True := trivial
        refine jx_if_ne (pc' := 49) (tg := 68) rfl rfl rfl (by decide) (by decide) (fun h1215 => ?_) (fun h1215 => ?_)
        · have _q := h1215
          refine jx_ld (pc' := 69) (l' := [(0, .ref 66)]) (st' := [.ref 66]) rfl (jl_aloadn rfl) ?_
          refine jx_ar (pc' := 71) (st' := [.int (i32 (14)), .ref 66]) rfl rfl rfl rfl ?_
          refine jx_ar (pc' := 72) (st' := [.int (i32 (0)), .int (i32 (14)), .ref 66]) rfl rfl rfl rfl ?_
          refine jx_vr (pc' := 75) (as := [.int (i32 (14)), .int (i32 (0))]) (st := []) rfl rfl rfl rfl ⟨rfl, rfl, Nat.le_of_ble_eq_true rfl⟩ rfl rfl (c_newName (dd := d) (hd := by omega) (hW := hW1197) (kind := 14) (many := 0) (sy := sy) (e_sy := show G1194 19 = sy from ((hF1198.1 19 rfl).trans ((hF778.1 19 rfl).trans (e_sy)))) (na := na) (e_na := show G1194 28 = na from ((hF1198.1 28 rfl).trans ((hF778.1 28 rfl).trans (e_na)))) (fk := fk2_1196) (e_fk := show G1194 16 = fk2_1196 from (e1199))  (h_kind := ⟨(by decide), (by decide)⟩) (h_many := ⟨(by decide), (by decide)⟩)  (p_0 := by omega) (p_1 := by omega)) (fun o V' hq => ?_)
          obtain ⟨G1216, A1217, r1218, sy2_1219, na2_1220, fk2_1221, yk2_1222, rfl, rfl, hW1223, hF1224, hQ1225, b1226, e1227, e1228, e1229, e1230, q1231⟩ := hq
          have hF1232 := Fr_tr hF1202 hF1224 (Fr_sub (by decide)) (Fr_sub (by decide))
          have hP1233 := Pf_f hP1203 hF1224 (by decide)
          have hS1234 := Fx_tr hS1204 hQ1225 (by omega)
          have hV1235 := Fx_f hV1205 hF1224 (by decide)
          have hK1236 := Fx_f hK1206 hF1224 (by decide)
          have sf1237 : wQ A1217 (pc0).toNat (nd) (sy) := wQ_fx (Pf_f Pf_rf hF1224 (by decide)) (Fx_su hQ1225 (by omega)) (Fx_su (Fx_f (w := pc0) Fx_rf hF1224 (by decide)) (by omega)) sf1207
          have sf1238 : VT (Vs) A1217 (sy) := VT_fx hQ1225 (by omega) sf1208
          have ec1239 : ecn A1217 (G1216 31) = ec := (ecn_f (hF1224.2 15 rfl) (hF1224.1 31 rfl)).trans ec1209
          have bsy2_1219 : (0 : Int) ≤ sy2_1219 ∧ sy2_1219 ≤ 202 := e1227 ▸ hW1223.1 19
          have bna2_1220 : (0 : Int) ≤ na2_1220 ∧ na2_1220 ≤ 200 := e1228 ▸ hW1223.1 28
          have bfk2_1221 : (0 : Int) ≤ fk2_1221 ∧ fk2_1221 ≤ 6 := e1229 ▸ hW1223.1 16
          have byk2_1222 : (0 : Int) ≤ yk2_1222 ∧ yk2_1222 ≤ 14 := e1230 ▸ hW1223.2 7 _
          refine .inr ⟨_, rfl, ?_⟩
          rcases q1231 with ⟨a1246, a1240, a1241, a1242, a1243, a1244, a1245⟩ | ⟨rfl, a1247, a1248, a1249⟩
          · have _q : True := trivial
            rw [a1246]
            exfalso
            omega
          · have _q : True := trivial
            refine jx_ld (pc' := 76) (l' := jSto1 [(0, .ref 66)] 1 (.int (i32 (0)))) (st' := []) rfl rfl ?_
            obtain ⟨L1250, eL1250⟩ : ∃ q, q = jSto1 [(0, .ref 66)] 1 (.int (i32 (0))) := ⟨_, rfl⟩
            rw [← eL1250]
            have gL1250_0 : jGet L1250 0 = some (.ref 66) := eL1250 ▸ jg_ne (by decide) (rfl : jGet [(0, .ref 66)] 0 = some (.ref 66)) rfl
            have gL1250_1 : jGet L1250 1 = some (.int (i32 (0))) := eL1250 ▸ jg_eq
            refine jx_ld (pc' := 77) (l' := L1250) (st' := [.ref 66]) rfl (jl_aloadn gL1250_0) ?_
            refine jx_vr (pc' := 80) (as := []) (st := []) rfl rfl rfl rfl ⟨rfl, rfl, Nat.le_of_ble_eq_true rfl⟩ rfl rfl (c_bad (dd := d) (hd := by omega) (hW := hW1223)  (fk := fk2_1221) (e_fk := show G1216 16 = fk2_1221 from (e1229))    ) (fun o V' hq => ?_)
            obtain ⟨r1251, rfl, rfl, b1252, q1253⟩ := hq
            refine .inr ⟨_, rfl, ?_⟩
            rcases q1253 with ⟨rfl, a1254⟩ | ⟨rfl, a1255⟩
            · have _q : True := trivial
              refine jx_if_eq (pc' := 83) (tg := 84) rfl rfl rfl (by decide) (by decide) (fun h1256 => ?_) (fun h1256 => ?_)
              · have _q := h1256
                exact absurd h1256 (by omega)
              · have _q := h1256
                refine jx_rt (v := none) rfl rfl rfl rfl rfl rfl ?_
                exact ⟨_, _, ln, at2_775, fk2_1221, nd, sy2_1219, na2_1220, vi, A 3 (ln).toNat, pc0, ec, rfl, rfl, hW1223, hF1232, hP1233, hS1234, hV1235, hK1236, ((hF1224.1 9 rfl).trans ((hF1198.1 9 rfl).trans ((hF778.1 9 rfl).trans (e_ln)))), ((hF1224.1 10 rfl).trans ((hF1198.1 10 rfl).trans (e779))), (e1229), ((hF1224.1 31 rfl).trans ((hF1198.1 31 rfl).trans ((hF778.1 31 rfl).trans (e_nd)))), (e1227), (e1228), ((hF1224.1 29 rfl).trans ((hF1198.1 29 rfl).trans ((hF778.1 29 rfl).trans (e_vi)))), (congrFun ((hF1224.2 3 rfl).trans ((hF1198.2 3 rfl).trans (hF778.2 3 rfl))) _), ((hF1224.1 46 rfl).trans ((hF1198.1 46 rfl).trans ((hF778.1 46 rfl).trans (e_pc0)))), ec1239, by omega, by omega, by omega, by omega, by first | exact Or.inl (by omega)⟩
            · have _q : True := trivial
              exfalso
              omega
        · have _q := h1215
          exact absurd h1215 (by omega)
      · have _q : True := trivial
        exfalso
        omega
  · have _q := h795
    refine jx_ld (pc' := 13) (l' := [(0, .ref 66)]) (st' := [.ref 66]) rfl (jl_aloadn rfl) ?_
    refine jx_ar (pc' := 14) (st' := [.int (i32 (1)), .ref 66]) rfl rfl rfl rfl ?_
    refine jx_ld (pc' := 15) (l' := [(0, .ref 66)]) (st' := [.ref 66, .int (i32 (1)), .ref 66]) rfl (jl_aloadn rfl) ?_
    have b1257 : (-3000 : Int) ≤ G773 12 ∧ G773 12 ≤ 3002 := hW777.1 12
    refine jr_get (pc' := 18) (i := 12) (v := .int (i32 (G773 12))) rfl rfl (by decide) rfl rfl ?_
    refine jx_vr (pc' := 21) (as := [.int (i32 (1)), .int (i32 (G773 12))]) (st := []) rfl rfl rfl rfl ⟨rfl, rfl, Nat.le_of_ble_eq_true rfl⟩ rfl rfl (c_fail (dd := d) (hd := by omega) (hW := hW777) (kind := 1) (place := G773 12) (fk := fk) (e_fk := show G773 16 = fk from ((hF778.1 16 rfl).trans (e_fk)))  (h_kind := ⟨(by decide), (by decide)⟩) (h_place := ⟨(Int.le_trans (by decide : (-2147483648 : Int) ≤ -3000) b1257.1), (Int.le_trans b1257.2 (by decide : (3002 : Int) ≤ 2147483647))⟩)  (p_0 := by omega) (p_1 := by omega)) (fun o V' hq => ?_)
    obtain ⟨G1258, A1259, fk2_1260, rfl, rfl, hW1261, hF1262, e1263, p1264, -⟩ := hq
    have hF1266 := Fr_tr hF785 hF1262 (Fr_sub (by decide)) (Fr_sub (by decide))
    have hP1267 := Pf_f hP786 hF1262 (by decide)
    have hS1268 := Fx_f hS787 hF1262 (by decide)
    have hV1269 := Fx_f hV788 hF1262 (by decide)
    have hK1270 := Fx_f hK789 hF1262 (by decide)
    have sf1271 : wQ A1259 (pc0).toNat (nd) (sy) := (show A1259 = A774 from funext (fun k => hF1262.2 k rfl)) ▸ sf790
    have sf1272 : VT (Vs) A1259 (sy) := (show A1259 = A774 from funext (fun k => hF1262.2 k rfl)) ▸ sf791
    have ec1273 : ecn A1259 (G1258 31) = ec := (ecn_f (hF1262.2 15 rfl) (hF1262.1 31 rfl)).trans ec792
    have bfk2_1260 : (0 : Int) ≤ fk2_1260 ∧ fk2_1260 ≤ 6 := e1263 ▸ hW1261.1 16
    refine .inl ⟨rfl, ?_⟩
    refine jx_rt (v := none) rfl rfl rfl rfl rfl rfl ?_
    exact ⟨_, _, ln, at2_775, fk2_1260, nd, sy, na, vi, A 3 (ln).toNat, pc0, ec, rfl, rfl, hW1261, hF1266, hP1267, hS1268, hV1269, hK1270, ((hF1262.1 9 rfl).trans ((hF778.1 9 rfl).trans (e_ln))), ((hF1262.1 10 rfl).trans (e779)), (e1263), ((hF1262.1 31 rfl).trans ((hF778.1 31 rfl).trans (e_nd))), ((hF1262.1 19 rfl).trans ((hF778.1 19 rfl).trans (e_sy))), ((hF1262.1 28 rfl).trans ((hF778.1 28 rfl).trans (e_na))), ((hF1262.1 29 rfl).trans ((hF778.1 29 rfl).trans (e_vi))), (congrFun ((hF1262.2 3 rfl).trans (hF778.2 3 rfl)) _), ((hF1262.1 46 rfl).trans ((hF778.1 46 rfl).trans (e_pc0))), ec1273, by omega, by omega, by omega, by omega, by first | exact Or.inl (by omega)⟩
