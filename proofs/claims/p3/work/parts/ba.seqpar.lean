set_option maxRecDepth 20000 in
set_option maxHeartbeats 4000000 in
theorem c_readSeq_w_at_126p {X : jX} {k : Nat} (hP : RPw X k) {d : Nat} {Vs : Nat → Prop} {sb pb : Int} (hvb : VB Vs sb) {c0 c1 : jC} {G : Nat → Int} {A : Nat → Nat → Int} {T : jH} {lv : Int} {ln li at0 fk nd sy na vi le op0 tk0 ec : Int} (hd : 8 * k + 82 ≤ d + 1) (hW : Wk G A) (e_ln : G 9 = ln) (e_li : G 3 = li) (e_at0 : G 10 = at0) (e_fk : G 16 = fk) (e_nd : G 31 = nd) (e_sy : G 19 = sy) (e_na : G 28 = na) (e_vi : G 29 = vi) (e_le : A 4 (ln).toNat = le) (e_op0 : G 15 = op0) (e_tk0 : G 11 = tk0) (e_ec : ecn A (G 31) = ec) (i_LT : LT G A) (i_SV : SV Vs sb G A) (i_PQ : PQ Vs sb pb G A) (h_lv : (-2147483648 : Int) ≤ lv ∧ lv ≤ 2147483647) (p_0 : 0 ≤ lv ∧ lv ≤ 15) (p_1 : 18 - lv ≤ ((k + 1 : Nat) : Int)) (p_2 : fk = 0) (p_3 : ln < li) (p_4 : at0 ≤ le) (p_5 : op0 = 0) (p_6 : nd ≤ 2 * at0 - tz tk0 + 30) (p_7 : sy ≤ na + 2) (p_8 : vi ≤ sy) (p_9 : sb = sy) (p_10 : 1 ≤ tk0) : ∀ (L : jL) (Gx : Nat → Int) (Ax : Nat → Nat → Int) (n at1 tk1 fk1 nd1 op1 sy1 na1 ec1 : Int), jGet L 0 = some (.ref 66) → jGet L 1 = some (.int (i32 (lv))) → jGet L 2 = some (.int (i32 n)) → Wk Gx Ax → Fr [9, 10, 11, 12, 13, 14, 15, 16, 17, 18, 19, 28, 29, 31] [6, 7, 8, 9, 10, 11, 12, 14, 15, 16, 17, 18, 19, 20, 21, 22, 23, 24, 28] G A Gx Ax → Pf nd A Ax → Fx sr (sy) A Ax → Fx [14] (vi) A Ax → Gx 10 = at1 → Gx 11 = tk1 → Gx 16 = fk1 → Gx 31 = nd1 → Gx 15 = op1 → Gx 19 = sy1 → Gx 28 = na1 → ecn Ax (Gx 31) = ec1 → Gx 9 = ln → Gx 29 = vi → ((-2147483648 : Int) ≤ n ∧ n ≤ 2147483647) → (1 ≤ fk1) → (at0 ≤ at1) → (at1 ≤ le) → (nd ≤ n ∧ n ≤ 6998 ∧ n < nd1) → (sy ≤ sy1) → (sy1 ≤ na1 + 2) → (0 ≤ op1 ∧ op1 ≤ 9) → (nd1 - nd ≤ 2 * at1 - 2 * at0 + 8) → wj X d jm297 (126, L, [], rV c0 c1 Gx Ax T) (fun o V_q => ∃ (G_q : Nat → Int) (A_q : Nat → Nat → Int) (r : Int) (ln2 : Int) (at2 : Int) (fk2 : Int) (nd2 : Int) (sy2 : Int) (na2 : Int) (vi2 : Int) (lf2 : Int) (ec2 : Int), V_q = rV c0 c1 G_q A_q T ∧ o = .inl (some (.int (i32 r))) ∧ Wk G_q A_q ∧ Fr [9, 10, 11, 12, 13, 14, 15, 16, 17, 18, 19, 28, 29, 31] [6, 7, 8, 9, 10, 11, 12, 14, 15, 16, 17, 18, 19, 20, 21, 22, 23, 24, 28] G A G_q A_q ∧ Pf nd A A_q ∧ Fx sr (sy) A A_q ∧ Fx [14] (vi) A A_q ∧ ((-2147483648 : Int) ≤ r ∧ r ≤ 2147483647) ∧ G_q 9 = ln2 ∧ G_q 10 = at2 ∧ G_q 16 = fk2 ∧ G_q 31 = nd2 ∧ G_q 19 = sy2 ∧ G_q 28 = na2 ∧ G_q 29 = vi2 ∧ A_q 3 (ln2).toNat = lf2 ∧ ecn A_q (G_q 31) = ec2 ∧ (at0 ≤ at2) ∧ (nd ≤ nd2) ∧ (sy ≤ sy2) ∧ (sy2 ≤ na2 + 2) ∧ (vi ≤ vi2) ∧ (vi2 ≤ vi + 1) ∧ (0 ≤ r) ∧ (r ≤ 6999) ∧ (ln ≤ ln2) ∧ (ln2 ≤ li) ∧ (((1 ≤ fk2) ∧ (nd2 - nd ≤ 2 * at2 - (2 * at0 - tz tk0) + 14)) ∨ ((fk2 = 0) ∧ (vi2 = vi) ∧ (ln < ln2) ∧ (nd2 - nd ≤ 2 * at2 - (2 * at0 - tz tk0)) ∧ (at2 < lf2 ∨ li ≤ ln2) ∧ (nd ≤ r) ∧ (r < nd2) ∧ (wSt A_q (sy2) pb (wP A_q (sy2) pb (k)) (Vs) (r) (nd) (nd2) (sy) (sy2)) ∧ (NX A_q (r)) ∧ (nd2 - nd + 5 * (ec2 - ec) ≤ 2 * at2 - (2 * at0 - tz tk0)) ∧ (NdM A_q (nd) (nd2) (sy))))) := by
  have hF0 : Fr [9, 10, 11, 12, 13, 14, 15, 16, 17, 18, 19, 28, 29, 31] [6, 7, 8, 9, 10, 11, 12, 14, 15, 16, 17, 18, 19, 20, 21, 22, 23, 24, 28] G A G A := Fr_rf
  have hP0 : Pf nd A A := Pf_rf
  have hS0 : Fx sr (sy) A A := Fx_rf
  have hV0 : Fx [14] (vi) A A := Fx_rf
  have b_ln : (0 : Int) ≤ ln ∧ ln ≤ 3000 := e_ln ▸ hW.1 9
  have b_li : (0 : Int) ≤ li ∧ li ≤ 3000 := e_li ▸ hW.1 3
  have b_at0 : (0 : Int) ≤ at0 ∧ at0 ≤ 3002 := e_at0 ▸ hW.1 10
  have b_fk : (0 : Int) ≤ fk ∧ fk ≤ 6 := e_fk ▸ hW.1 16
  have b_nd : (0 : Int) ≤ nd ∧ nd ≤ 6999 := e_nd ▸ hW.1 31
  have b_sy : (0 : Int) ≤ sy ∧ sy ≤ 202 := e_sy ▸ hW.1 19
  have b_na : (0 : Int) ≤ na ∧ na ≤ 200 := e_na ▸ hW.1 28
  have b_vi : (0 : Int) ≤ vi ∧ vi ≤ 202 := e_vi ▸ hW.1 29
  have b_le : (0 : Int) ≤ le ∧ le ≤ 3000 := e_le ▸ hW.2 4 _
  have b_op0 : (-2147483648 : Int) ≤ op0 ∧ op0 ≤ 2147483647 := e_op0 ▸ hW.1 15
  have z_tk0 := tz_f tk0
  have b_tk0 : (0 : Int) ≤ tk0 ∧ tk0 ≤ 5 := e_tk0 ▸ hW.1 11
  intro L Gx Ax n at1 tk1 fk1 nd1 op1 sy1 na1 ec1 gL_0 gL_1 gL_2 hWx hFx hPx hSx hVx ex_at1 ex_tk1 ex_fk1 ex_nd1 ex_op1 ex_sy1 ex_na1 ex_ec1 fx_9 fx_29 rx_n iv_0 iv_1 iv_2 iv_3 iv_4 iv_5 iv_6 iv_7
  have b_at1 : (0 : Int) ≤ at1 ∧ at1 ≤ 3002 := ex_at1 ▸ hWx.1 10
  have z_tk1 := tz_f tk1
  have b_tk1 : (0 : Int) ≤ tk1 ∧ tk1 ≤ 5 := ex_tk1 ▸ hWx.1 11
  have b_fk1 : (0 : Int) ≤ fk1 ∧ fk1 ≤ 6 := ex_fk1 ▸ hWx.1 16
  have b_nd1 : (0 : Int) ≤ nd1 ∧ nd1 ≤ 6999 := ex_nd1 ▸ hWx.1 31
  have b_op1 : (-2147483648 : Int) ≤ op1 ∧ op1 ≤ 2147483647 := ex_op1 ▸ hWx.1 15
  have b_sy1 : (0 : Int) ≤ sy1 ∧ sy1 ≤ 202 := ex_sy1 ▸ hWx.1 19
  have b_na1 : (0 : Int) ≤ na1 ∧ na1 ≤ 200 := ex_na1 ▸ hWx.1 28
  refine jx_ld (pc_q := 127) (l_q := L) (st_q := [.ref 66]) rfl (jl_aloadn gL_0) ?_
  refine jx_vr (pc_q := 130) (as := []) (st := []) rfl rfl rfl rfl ⟨rfl, rfl, Nat.le_of_ble_eq_true rfl⟩ rfl rfl (c_endLine (dd := d) (hd := by omega) (hW := hWx)  (ln := ln) (e_ln := show Gx 9 = ln from (fx_9)) (li := li) (e_li := show Gx 3 = li from ((hFx.1 3 rfl).trans (e_li))) (fk := fk1) (e_fk := show Gx 16 = fk1 from (ex_fk1)) (tk0 := tk1) (e_tk0 := show Gx 11 = tk1 from (ex_tk1))    (p_0 := by omega)) (fun o V_q hq => ?_)
  obtain ⟨G1, A2, ln2_3, fk2_4, rfl, rfl, hW5, hF6, e7, e8, q9⟩ := hq
  have hF10 := Fr_tr hFx hF6 (Fr_sub (by decide)) (Fr_sub (by decide))
  have hP11 := Pf_f hPx hF6 (by decide)
  have hS12 := Fx_f hSx hF6 (by decide)
  have hV13 := Fx_f hVx hF6 (by decide)
  have ec14 : ecn A2 (G1 31) = ec1 := (ecn_f (hF6.2 15 rfl) (hF6.1 31 rfl)).trans ex_ec1
  have bln2_3 : (0 : Int) ≤ ln2_3 ∧ ln2_3 ≤ 3000 := e7 ▸ hW5.1 9
  have bfk2_4 : (0 : Int) ≤ fk2_4 ∧ fk2_4 ≤ 6 := e8 ▸ hW5.1 16
  refine .inl ⟨rfl, ?_⟩
  rcases q9 with ⟨a15, a16, a17, a18, a19⟩ | ⟨a20, a21⟩
  · have _q : True := trivial
    exfalso
    omega
  · have _q : True := trivial
    refine jx_ld (pc_q := 131) (l_q := L) (st_q := [.ref 66]) rfl (jl_aloadn gL_0) ?_
    refine jx_ld (pc_q := 132) (l_q := L) (st_q := [.int (i32 (n)), .ref 66]) rfl (jl_iloadn gL_2) ?_
    refine jx_ld (pc_q := 133) (l_q := L) (st_q := [.int (i32 (lv)), .int (i32 (n)), .ref 66]) rfl (jl_iloadn gL_1) ?_
    refine jx_vr (pc_q := 136) (as := [.int (i32 (n)), .int (i32 (lv))]) (st := []) rfl rfl rfl rfl ⟨rfl, rfl, Nat.le_of_ble_eq_true rfl⟩ rfl rfl (c_readIndexed_f (dd := d) (hd := by omega) (hW := hW5) (n := n) (lv := lv) (fk := fk2_4) (e_fk := show G1 16 = fk2_4 from (e8))  (h_n := ⟨(Int.le_trans (by decide : (-2147483648 : Int) ≤ -2147483648) rx_n.1), (Int.le_trans rx_n.2 (by decide : (2147483647 : Int) ≤ 2147483647))⟩) (h_lv := ⟨(Int.le_trans (by decide : (-2147483648 : Int) ≤ -2147483648) h_lv.1), (Int.le_trans h_lv.2 (by decide : (2147483647 : Int) ≤ 2147483647))⟩)  (p_0 := by omega)) (fun o V_q hq => ?_)
    obtain ⟨r22, rfl, rfl, b23, p24, -⟩ := hq
    refine .inr ⟨_, rfl, ?_⟩
    refine jx_rt (v := some (.int (i32 (r22)))) rfl rfl rfl rfl rfl rfl ?_
    exact ⟨_, _, _, ln2_3, at1, fk2_4, nd1, sy1, na1, vi, A 3 (ln2_3).toNat, ec1, rfl, rfl, hW5, hF10, hP11, hS12, hV13, by omega, (e7), ((hF6.1 10 rfl).trans (ex_at1)), (e8), ((hF6.1 31 rfl).trans (ex_nd1)), ((hF6.1 19 rfl).trans (ex_sy1)), ((hF6.1 28 rfl).trans (ex_na1)), ((hF6.1 29 rfl).trans (fx_29)), (congrFun ((hF6.2 3 rfl).trans (hFx.2 3 rfl)) _), ec14, by omega, by omega, by omega, by omega, by omega, by omega, by omega, by omega, by omega, by omega, by first | exact Or.inl (⟨by omega, by omega⟩)⟩
set_option maxRecDepth 20000 in
set_option maxHeartbeats 4000000 in
theorem c_readSeq_w_at_116p {X : jX} {k : Nat} (hP : RPw X k) {d : Nat} {Vs : Nat → Prop} {sb pb : Int} (hvb : VB Vs sb) {c0 c1 : jC} {G : Nat → Int} {A : Nat → Nat → Int} {T : jH} {lv : Int} {ln li at0 fk nd sy na vi le op0 tk0 ec : Int} (hd : 8 * k + 82 ≤ d + 1) (hW : Wk G A) (e_ln : G 9 = ln) (e_li : G 3 = li) (e_at0 : G 10 = at0) (e_fk : G 16 = fk) (e_nd : G 31 = nd) (e_sy : G 19 = sy) (e_na : G 28 = na) (e_vi : G 29 = vi) (e_le : A 4 (ln).toNat = le) (e_op0 : G 15 = op0) (e_tk0 : G 11 = tk0) (e_ec : ecn A (G 31) = ec) (i_LT : LT G A) (i_SV : SV Vs sb G A) (i_PQ : PQ Vs sb pb G A) (h_lv : (-2147483648 : Int) ≤ lv ∧ lv ≤ 2147483647) (p_0 : 0 ≤ lv ∧ lv ≤ 15) (p_1 : 18 - lv ≤ ((k + 1 : Nat) : Int)) (p_2 : fk = 0) (p_3 : ln < li) (p_4 : at0 ≤ le) (p_5 : op0 = 0) (p_6 : nd ≤ 2 * at0 - tz tk0 + 30) (p_7 : sy ≤ na + 2) (p_8 : vi ≤ sy) (p_9 : sb = sy) (p_10 : 1 ≤ tk0) : ∀ (L : jL) (Gx : Nat → Int) (Ax : Nat → Nat → Int) (n at1 tk1 fk1 nd1 op1 sy1 na1 ec1 : Int), jGet L 0 = some (.ref 66) → jGet L 1 = some (.int (i32 (lv))) → jGet L 2 = some (.int (i32 n)) → Wk Gx Ax → Fr [9, 10, 11, 12, 13, 14, 15, 16, 17, 18, 19, 28, 29, 31] [6, 7, 8, 9, 10, 11, 12, 14, 15, 16, 17, 18, 19, 20, 21, 22, 23, 24, 28] G A Gx Ax → Pf nd A Ax → Fx sr (sy) A Ax → Fx [14] (vi) A Ax → Gx 10 = at1 → Gx 11 = tk1 → Gx 16 = fk1 → Gx 31 = nd1 → Gx 15 = op1 → Gx 19 = sy1 → Gx 28 = na1 → ecn Ax (Gx 31) = ec1 → Gx 9 = ln → Gx 29 = vi → ((-2147483648 : Int) ≤ n ∧ n ≤ 2147483647) → (1 ≤ fk1) → (at0 ≤ at1) → (at1 ≤ le) → (nd ≤ n ∧ n ≤ 6998 ∧ n < nd1) → (sy ≤ sy1) → (sy1 ≤ na1 + 2) → (0 ≤ op1 ∧ op1 ≤ 9) → (nd1 - nd ≤ 2 * at1 - 2 * at0 + 8) → wj X d jm297 (116, L, [], rV c0 c1 Gx Ax T) (fun o V_q => ∃ (G_q : Nat → Int) (A_q : Nat → Nat → Int) (r : Int) (ln2 : Int) (at2 : Int) (fk2 : Int) (nd2 : Int) (sy2 : Int) (na2 : Int) (vi2 : Int) (lf2 : Int) (ec2 : Int), V_q = rV c0 c1 G_q A_q T ∧ o = .inl (some (.int (i32 r))) ∧ Wk G_q A_q ∧ Fr [9, 10, 11, 12, 13, 14, 15, 16, 17, 18, 19, 28, 29, 31] [6, 7, 8, 9, 10, 11, 12, 14, 15, 16, 17, 18, 19, 20, 21, 22, 23, 24, 28] G A G_q A_q ∧ Pf nd A A_q ∧ Fx sr (sy) A A_q ∧ Fx [14] (vi) A A_q ∧ ((-2147483648 : Int) ≤ r ∧ r ≤ 2147483647) ∧ G_q 9 = ln2 ∧ G_q 10 = at2 ∧ G_q 16 = fk2 ∧ G_q 31 = nd2 ∧ G_q 19 = sy2 ∧ G_q 28 = na2 ∧ G_q 29 = vi2 ∧ A_q 3 (ln2).toNat = lf2 ∧ ecn A_q (G_q 31) = ec2 ∧ (at0 ≤ at2) ∧ (nd ≤ nd2) ∧ (sy ≤ sy2) ∧ (sy2 ≤ na2 + 2) ∧ (vi ≤ vi2) ∧ (vi2 ≤ vi + 1) ∧ (0 ≤ r) ∧ (r ≤ 6999) ∧ (ln ≤ ln2) ∧ (ln2 ≤ li) ∧ (((1 ≤ fk2) ∧ (nd2 - nd ≤ 2 * at2 - (2 * at0 - tz tk0) + 14)) ∨ ((fk2 = 0) ∧ (vi2 = vi) ∧ (ln < ln2) ∧ (nd2 - nd ≤ 2 * at2 - (2 * at0 - tz tk0)) ∧ (at2 < lf2 ∨ li ≤ ln2) ∧ (nd ≤ r) ∧ (r < nd2) ∧ (wSt A_q (sy2) pb (wP A_q (sy2) pb (k)) (Vs) (r) (nd) (nd2) (sy) (sy2)) ∧ (NX A_q (r)) ∧ (nd2 - nd + 5 * (ec2 - ec) ≤ 2 * at2 - (2 * at0 - tz tk0)) ∧ (NdM A_q (nd) (nd2) (sy))))) := by
  have hF0 : Fr [9, 10, 11, 12, 13, 14, 15, 16, 17, 18, 19, 28, 29, 31] [6, 7, 8, 9, 10, 11, 12, 14, 15, 16, 17, 18, 19, 20, 21, 22, 23, 24, 28] G A G A := Fr_rf
  have hP0 : Pf nd A A := Pf_rf
  have hS0 : Fx sr (sy) A A := Fx_rf
  have hV0 : Fx [14] (vi) A A := Fx_rf
  have b_ln : (0 : Int) ≤ ln ∧ ln ≤ 3000 := e_ln ▸ hW.1 9
  have b_li : (0 : Int) ≤ li ∧ li ≤ 3000 := e_li ▸ hW.1 3
  have b_at0 : (0 : Int) ≤ at0 ∧ at0 ≤ 3002 := e_at0 ▸ hW.1 10
  have b_fk : (0 : Int) ≤ fk ∧ fk ≤ 6 := e_fk ▸ hW.1 16
  have b_nd : (0 : Int) ≤ nd ∧ nd ≤ 6999 := e_nd ▸ hW.1 31
  have b_sy : (0 : Int) ≤ sy ∧ sy ≤ 202 := e_sy ▸ hW.1 19
  have b_na : (0 : Int) ≤ na ∧ na ≤ 200 := e_na ▸ hW.1 28
  have b_vi : (0 : Int) ≤ vi ∧ vi ≤ 202 := e_vi ▸ hW.1 29
  have b_le : (0 : Int) ≤ le ∧ le ≤ 3000 := e_le ▸ hW.2 4 _
  have b_op0 : (-2147483648 : Int) ≤ op0 ∧ op0 ≤ 2147483647 := e_op0 ▸ hW.1 15
  have z_tk0 := tz_f tk0
  have b_tk0 : (0 : Int) ≤ tk0 ∧ tk0 ≤ 5 := e_tk0 ▸ hW.1 11
  intro L Gx Ax n at1 tk1 fk1 nd1 op1 sy1 na1 ec1 gL_0 gL_1 gL_2 hWx hFx hPx hSx hVx ex_at1 ex_tk1 ex_fk1 ex_nd1 ex_op1 ex_sy1 ex_na1 ex_ec1 fx_9 fx_29 rx_n iv_0 iv_1 iv_2 iv_3 iv_4 iv_5 iv_6 iv_7
  have b_at1 : (0 : Int) ≤ at1 ∧ at1 ≤ 3002 := ex_at1 ▸ hWx.1 10
  have z_tk1 := tz_f tk1
  have b_tk1 : (0 : Int) ≤ tk1 ∧ tk1 ≤ 5 := ex_tk1 ▸ hWx.1 11
  have b_fk1 : (0 : Int) ≤ fk1 ∧ fk1 ≤ 6 := ex_fk1 ▸ hWx.1 16
  have b_nd1 : (0 : Int) ≤ nd1 ∧ nd1 ≤ 6999 := ex_nd1 ▸ hWx.1 31
  have b_op1 : (-2147483648 : Int) ≤ op1 ∧ op1 ≤ 2147483647 := ex_op1 ▸ hWx.1 15
  have b_sy1 : (0 : Int) ≤ sy1 ∧ sy1 ≤ 202 := ex_sy1 ▸ hWx.1 19
  have b_na1 : (0 : Int) ≤ na1 ∧ na1 ≤ 200 := ex_na1 ▸ hWx.1 28
  refine jx_ld (pc_q := 117) (l_q := L) (st_q := [.ref 66]) rfl (jl_aloadn gL_0) ?_
  refine jr_get (pc_q := 120) (i := 37) (v := .ref 87) rfl rfl (by decide) rfl rfl ?_
  refine jx_ld (pc_q := 121) (l_q := L) (st_q := [.int (i32 (n)), .ref 87]) rfl (jl_iloadn gL_2) ?_
  refine jx_ld (pc_q := 122) (l_q := L) (st_q := [.ref 66, .int (i32 (n)), .ref 87]) rfl (jl_aloadn gL_0) ?_
  refine jx_vr (pc_q := 125) (as := []) (st := [.int (i32 (n)), .ref 87]) rfl rfl rfl rfl ⟨rfl, rfl, Nat.le_of_ble_eq_true rfl⟩ rfl rfl (REw_all X 9 (dd := d) (hd := by omega) (hW := hWx)  (ln := ln) (e_ln := show Gx 9 = ln from (fx_9)) (le := le) (e_le := show Ax 4 (ln).toNat = le from (congrFun (hFx.2 4 rfl) _).trans (e_le)) (at0 := at1) (e_at0 := show Gx 10 = at1 from (ex_at1)) (fk := fk1) (e_fk := show Gx 16 = fk1 from (ex_fk1)) (op0 := op1) (e_op0 := show Gx 15 = op1 from (ex_op1)) (nd := nd1) (e_nd := show Gx 31 = nd1 from (ex_nd1)) (tk0 := tk1) (e_tk0 := show Gx 11 = tk1 from (ex_tk1)) (ec := ec1) (e_ec := show ecn Ax (Gx 31) = ec1 from ex_ec1) (sy := sy1) (e_sy := show Gx 19 = sy1 from (ex_sy1)) (i_SV := (SV_fx i_SV e_vi (show Gx 29 = vi from (fx_29)) (by omega) hVx))   (p_0 := by omega) (p_1 := by omega) (p_2 := by omega) (p_3 := by omega) (p_4 := by omega) (p_5 := by omega)) (fun o V_q hq => ?_)
  obtain ⟨G26, A27, r28, at2_29, fk2_30, op2_31, nd2_32, tk2_33, ec2_34, rfl, rfl, hW35, hF36, hQ37, b38, e39, e40, e41, e42, e43, e44, p45, p46, p47, p48, p49, p50, q51⟩ := hq
  have hF52 := Fr_tr hFx hF36 (Fr_sub (by decide)) (Fr_sub (by decide))
  have hP53 := Pf_tr hPx hQ37 (by omega)
  have hS54 := Fx_f hSx hF36 (by decide)
  have hV55 := Fx_f hVx hF36 (by decide)
  have bat2_29 : (0 : Int) ≤ at2_29 ∧ at2_29 ≤ 3002 := e39 ▸ hW35.1 10
  have bfk2_30 : (0 : Int) ≤ fk2_30 ∧ fk2_30 ≤ 6 := e40 ▸ hW35.1 16
  have bop2_31 : (-2147483648 : Int) ≤ op2_31 ∧ op2_31 ≤ 2147483647 := e41 ▸ hW35.1 15
  have bnd2_32 : (0 : Int) ≤ nd2_32 ∧ nd2_32 ≤ 6999 := e42 ▸ hW35.1 31
  have ztk2_33 := tz_b tk2_33
  have btk2_33 : (0 : Int) ≤ tk2_33 ∧ tk2_33 ≤ 5 := e43 ▸ hW35.1 11
  refine .inr ⟨_, rfl, ?_⟩
  rcases q51 with ⟨a56, a57, a58, a59, a60, a61⟩ | ⟨a62, a63, a64⟩ | ⟨a65, a66, a67, a68, a69, a70, a71, a72⟩
  · have _q : True := trivial
    refine jr_st (pc_q := 126) (i := 20) (m := 7000) (z := n) (y := r28) rfl (by decide) rfl (by decide) (by omega) (by omega) rfl ?_
    have hW74 : Wk G26 (uA A27 20 (n).toNat (r28)) := Wk_a hW35 (show (-2147483648 : Int) ≤ r28 by omega) (show r28 ≤ (2147483647 : Int) by omega)
    have hF75 := Fr_a (z := r28) (k := 20) (n := (n).toNat) hF52 (by decide)
    obtain ⟨A73, eA73⟩ : ∃ q, q = uA A27 20 (n).toNat (r28) := ⟨_, rfl⟩
    rw [← eA73]
    rw [← eA73] at hW74 hF75
    have q76 : A73 20 (n).toNat = r28 := by rw [eA73]; exact uA_eq
    have hP77 : Pf nd A A73 := eA73 ▸ Pf_a hP53 (z := n) (by omega) (by omega)
    have hS78 : Fx sr (sy) A A73 := eA73 ▸ Fx_n hS54 rfl
    have hV79 : Fx [14] (vi) A A73 := eA73 ▸ Fx_n hV55 rfl
    have ec80 : ecn A73 (G26 31) = ec2_34 := (ecn_e ((congrFun eA73 15).trans (uA_ne (by decide)))).trans e44
    have z81 := tz_f (tk2_33)
    exact c_readSeq_w_at_126p (X := X) (k := k) (hP := hP) (d := d) (Vs := Vs) (sb := sb) (pb := pb) (hvb := hvb) (c0 := c0) (c1 := c1) (G := G) (A := A) (T := T) (lv := lv) (ln := ln) (li := li) (at0 := at0) (fk := fk) (nd := nd) (sy := sy) (na := na) (vi := vi) (le := le) (op0 := op0) (tk0 := tk0) (ec := ec) (hd := hd) (hW := hW) (e_ln := e_ln) (e_li := e_li) (e_at0 := e_at0) (e_fk := e_fk) (e_nd := e_nd) (e_sy := e_sy) (e_na := e_na) (e_vi := e_vi) (e_le := e_le) (e_op0 := e_op0) (e_tk0 := e_tk0) (e_ec := e_ec) (i_LT := i_LT) (i_SV := i_SV) (i_PQ := i_PQ) (h_lv := h_lv) (p_0 := p_0) (p_1 := p_1) (p_2 := p_2) (p_3 := p_3) (p_4 := p_4) (p_5 := p_5) (p_6 := p_6) (p_7 := p_7) (p_8 := p_8) (p_9 := p_9) (p_10 := p_10) L G26 A73 (n) (at2_29) (tk2_33) (fk2_30) (nd2_32) (op2_31) (sy1) (na1) (ec2_34) gL_0 gL_1 gL_2 hW74 hF75 hP77 hS78 hV79 ((e39)) ((e43)) ((e40)) ((e42)) ((e41)) (((hF36.1 19 rfl).trans (ex_sy1))) (((hF36.1 28 rfl).trans (ex_na1))) (ec80) (((hF36.1 9 rfl).trans (fx_9))) (((hF36.1 29 rfl).trans (fx_29))) (by omega) (by omega) (by omega) (by omega) (by omega) (by omega) (by omega) (by omega) (by omega)
  · have _q : True := trivial
    exfalso
    omega
  · have _q : True := trivial
    exfalso
    omega
set_option maxRecDepth 20000 in
set_option maxHeartbeats 4000000 in
theorem c_readSeq_w_at_106p {X : jX} {k : Nat} (hP : RPw X k) {d : Nat} {Vs : Nat → Prop} {sb pb : Int} (hvb : VB Vs sb) {c0 c1 : jC} {G : Nat → Int} {A : Nat → Nat → Int} {T : jH} {lv : Int} {ln li at0 fk nd sy na vi le op0 tk0 ec : Int} (hd : 8 * k + 82 ≤ d + 1) (hW : Wk G A) (e_ln : G 9 = ln) (e_li : G 3 = li) (e_at0 : G 10 = at0) (e_fk : G 16 = fk) (e_nd : G 31 = nd) (e_sy : G 19 = sy) (e_na : G 28 = na) (e_vi : G 29 = vi) (e_le : A 4 (ln).toNat = le) (e_op0 : G 15 = op0) (e_tk0 : G 11 = tk0) (e_ec : ecn A (G 31) = ec) (i_LT : LT G A) (i_SV : SV Vs sb G A) (i_PQ : PQ Vs sb pb G A) (h_lv : (-2147483648 : Int) ≤ lv ∧ lv ≤ 2147483647) (p_0 : 0 ≤ lv ∧ lv ≤ 15) (p_1 : 18 - lv ≤ ((k + 1 : Nat) : Int)) (p_2 : fk = 0) (p_3 : ln < li) (p_4 : at0 ≤ le) (p_5 : op0 = 0) (p_6 : nd ≤ 2 * at0 - tz tk0 + 30) (p_7 : sy ≤ na + 2) (p_8 : vi ≤ sy) (p_9 : sb = sy) (p_10 : 1 ≤ tk0) : ∀ (L : jL) (Gx : Nat → Int) (Ax : Nat → Nat → Int) (n at1 tk1 fk1 nd1 op1 sy1 na1 ec1 : Int), jGet L 0 = some (.ref 66) → jGet L 1 = some (.int (i32 (lv))) → jGet L 2 = some (.int (i32 n)) → Wk Gx Ax → Fr [9, 10, 11, 12, 13, 14, 15, 16, 17, 18, 19, 28, 29, 31] [6, 7, 8, 9, 10, 11, 12, 14, 15, 16, 17, 18, 19, 20, 21, 22, 23, 24, 28] G A Gx Ax → Pf nd A Ax → Fx sr (sy) A Ax → Fx [14] (vi) A Ax → Gx 10 = at1 → Gx 11 = tk1 → Gx 16 = fk1 → Gx 31 = nd1 → Gx 15 = op1 → Gx 19 = sy1 → Gx 28 = na1 → ecn Ax (Gx 31) = ec1 → Gx 9 = ln → Gx 29 = vi → ((-2147483648 : Int) ≤ n ∧ n ≤ 2147483647) → (1 ≤ fk1) → (at0 ≤ at1) → (at1 ≤ le) → (nd ≤ n ∧ n ≤ 6998 ∧ n < nd1) → (sy ≤ sy1) → (sy1 ≤ na1 + 2) → (0 ≤ op1 ∧ op1 ≤ 9) → (nd1 - nd ≤ 2 * at1 - 2 * at0 + 8) → wj X d jm297 (106, L, [], rV c0 c1 Gx Ax T) (fun o V_q => ∃ (G_q : Nat → Int) (A_q : Nat → Nat → Int) (r : Int) (ln2 : Int) (at2 : Int) (fk2 : Int) (nd2 : Int) (sy2 : Int) (na2 : Int) (vi2 : Int) (lf2 : Int) (ec2 : Int), V_q = rV c0 c1 G_q A_q T ∧ o = .inl (some (.int (i32 r))) ∧ Wk G_q A_q ∧ Fr [9, 10, 11, 12, 13, 14, 15, 16, 17, 18, 19, 28, 29, 31] [6, 7, 8, 9, 10, 11, 12, 14, 15, 16, 17, 18, 19, 20, 21, 22, 23, 24, 28] G A G_q A_q ∧ Pf nd A A_q ∧ Fx sr (sy) A A_q ∧ Fx [14] (vi) A A_q ∧ ((-2147483648 : Int) ≤ r ∧ r ≤ 2147483647) ∧ G_q 9 = ln2 ∧ G_q 10 = at2 ∧ G_q 16 = fk2 ∧ G_q 31 = nd2 ∧ G_q 19 = sy2 ∧ G_q 28 = na2 ∧ G_q 29 = vi2 ∧ A_q 3 (ln2).toNat = lf2 ∧ ecn A_q (G_q 31) = ec2 ∧ (at0 ≤ at2) ∧ (nd ≤ nd2) ∧ (sy ≤ sy2) ∧ (sy2 ≤ na2 + 2) ∧ (vi ≤ vi2) ∧ (vi2 ≤ vi + 1) ∧ (0 ≤ r) ∧ (r ≤ 6999) ∧ (ln ≤ ln2) ∧ (ln2 ≤ li) ∧ (((1 ≤ fk2) ∧ (nd2 - nd ≤ 2 * at2 - (2 * at0 - tz tk0) + 14)) ∨ ((fk2 = 0) ∧ (vi2 = vi) ∧ (ln < ln2) ∧ (nd2 - nd ≤ 2 * at2 - (2 * at0 - tz tk0)) ∧ (at2 < lf2 ∨ li ≤ ln2) ∧ (nd ≤ r) ∧ (r < nd2) ∧ (wSt A_q (sy2) pb (wP A_q (sy2) pb (k)) (Vs) (r) (nd) (nd2) (sy) (sy2)) ∧ (NX A_q (r)) ∧ (nd2 - nd + 5 * (ec2 - ec) ≤ 2 * at2 - (2 * at0 - tz tk0)) ∧ (NdM A_q (nd) (nd2) (sy))))) := by
  have hF0 : Fr [9, 10, 11, 12, 13, 14, 15, 16, 17, 18, 19, 28, 29, 31] [6, 7, 8, 9, 10, 11, 12, 14, 15, 16, 17, 18, 19, 20, 21, 22, 23, 24, 28] G A G A := Fr_rf
  have hP0 : Pf nd A A := Pf_rf
  have hS0 : Fx sr (sy) A A := Fx_rf
  have hV0 : Fx [14] (vi) A A := Fx_rf
  have b_ln : (0 : Int) ≤ ln ∧ ln ≤ 3000 := e_ln ▸ hW.1 9
  have b_li : (0 : Int) ≤ li ∧ li ≤ 3000 := e_li ▸ hW.1 3
  have b_at0 : (0 : Int) ≤ at0 ∧ at0 ≤ 3002 := e_at0 ▸ hW.1 10
  have b_fk : (0 : Int) ≤ fk ∧ fk ≤ 6 := e_fk ▸ hW.1 16
  have b_nd : (0 : Int) ≤ nd ∧ nd ≤ 6999 := e_nd ▸ hW.1 31
  have b_sy : (0 : Int) ≤ sy ∧ sy ≤ 202 := e_sy ▸ hW.1 19
  have b_na : (0 : Int) ≤ na ∧ na ≤ 200 := e_na ▸ hW.1 28
  have b_vi : (0 : Int) ≤ vi ∧ vi ≤ 202 := e_vi ▸ hW.1 29
  have b_le : (0 : Int) ≤ le ∧ le ≤ 3000 := e_le ▸ hW.2 4 _
  have b_op0 : (-2147483648 : Int) ≤ op0 ∧ op0 ≤ 2147483647 := e_op0 ▸ hW.1 15
  have z_tk0 := tz_f tk0
  have b_tk0 : (0 : Int) ≤ tk0 ∧ tk0 ≤ 5 := e_tk0 ▸ hW.1 11
  intro L Gx Ax n at1 tk1 fk1 nd1 op1 sy1 na1 ec1 gL_0 gL_1 gL_2 hWx hFx hPx hSx hVx ex_at1 ex_tk1 ex_fk1 ex_nd1 ex_op1 ex_sy1 ex_na1 ex_ec1 fx_9 fx_29 rx_n iv_0 iv_1 iv_2 iv_3 iv_4 iv_5 iv_6 iv_7
  have b_at1 : (0 : Int) ≤ at1 ∧ at1 ≤ 3002 := ex_at1 ▸ hWx.1 10
  have z_tk1 := tz_f tk1
  have b_tk1 : (0 : Int) ≤ tk1 ∧ tk1 ≤ 5 := ex_tk1 ▸ hWx.1 11
  have b_fk1 : (0 : Int) ≤ fk1 ∧ fk1 ≤ 6 := ex_fk1 ▸ hWx.1 16
  have b_nd1 : (0 : Int) ≤ nd1 ∧ nd1 ≤ 6999 := ex_nd1 ▸ hWx.1 31
  have b_op1 : (-2147483648 : Int) ≤ op1 ∧ op1 ≤ 2147483647 := ex_op1 ▸ hWx.1 15
  have b_sy1 : (0 : Int) ≤ sy1 ∧ sy1 ≤ 202 := ex_sy1 ▸ hWx.1 19
  have b_na1 : (0 : Int) ≤ na1 ∧ na1 ≤ 200 := ex_na1 ▸ hWx.1 28
  refine jx_ld (pc_q := 107) (l_q := L) (st_q := [.ref 66]) rfl (jl_aloadn gL_0) ?_
  refine jx_ld (pc_q := 108) (l_q := L) (st_q := [.ref 66, .ref 66]) rfl (jl_aloadn gL_0) ?_
  refine jx_ar (pc_q := 110) (st_q := [.int (i32 (13)), .ref 66, .ref 66]) rfl rfl rfl rfl ?_
  have b82 : (-2147483648 : Int) ≤ Gx 13 ∧ Gx 13 ≤ 2147483647 := hWx.1 13
  refine jx_vr (pc_q := 113) (as := [.int (i32 (13))]) (st := [.ref 66]) rfl rfl rfl rfl ⟨rfl, rfl, Nat.le_of_ble_eq_true rfl⟩ rfl rfl (c_isKey (dd := d) (hd := by omega) (hW := hWx) (k := 13) (tk := tk1) (e_tk := show Gx 11 = tk1 from (ex_tk1)) (tn := Gx 13) (e_tn := show Gx 13 = Gx 13 from rfl)  (h_k := ⟨(by decide), (by decide)⟩)  ) (fun o V_q hq => ?_)
  obtain ⟨r83, rfl, rfl, b84, q85⟩ := hq
  refine .inr ⟨_, rfl, ?_⟩
  rcases q85 with ⟨rfl, a86, a87, a88⟩ | rfl
  · have _q : True := trivial
    refine jx_vr (pc_q := 116) (as := [.int (i32 (1))]) (st := []) rfl rfl rfl rfl ⟨rfl, rfl, Nat.le_of_ble_eq_true rfl⟩ rfl rfl (c_need (dd := d) (hd := by omega) (hW := hWx) (g := 1) (ln := ln) (e_ln := show Gx 9 = ln from (fx_9)) (le := le) (e_le := show Ax 4 (ln).toNat = le from (congrFun (hFx.2 4 rfl) _).trans (e_le)) (at0 := at1) (e_at0 := show Gx 10 = at1 from (ex_at1)) (fk := fk1) (e_fk := show Gx 16 = fk1 from (ex_fk1)) (tk0 := tk1) (e_tk0 := show Gx 11 = tk1 from (ex_tk1))  (h_g := ⟨(by decide), (by decide)⟩)  (p_0 := by omega)) (fun o V_q hq => ?_)
    obtain ⟨G89, A90, at2_91, tk2_92, fk2_93, rfl, rfl, hW94, hF95, e96, e97, e98, p99, p100, q101⟩ := hq
    have hF102 := Fr_tr hFx hF95 (Fr_sub (by decide)) (Fr_sub (by decide))
    have hP103 := Pf_f hPx hF95 (by decide)
    have hS104 := Fx_f hSx hF95 (by decide)
    have hV105 := Fx_f hVx hF95 (by decide)
    have ec106 : ecn A90 (G89 31) = ec1 := (ecn_f (hF95.2 15 rfl) (hF95.1 31 rfl)).trans ex_ec1
    have bat2_91 : (0 : Int) ≤ at2_91 ∧ at2_91 ≤ 3002 := e96 ▸ hW94.1 10
    have ztk2_92 := tz_b tk2_92
    have btk2_92 : (0 : Int) ≤ tk2_92 ∧ tk2_92 ≤ 5 := e97 ▸ hW94.1 11
    have bfk2_93 : (0 : Int) ≤ fk2_93 ∧ fk2_93 ≤ 6 := e98 ▸ hW94.1 16
    refine .inl ⟨rfl, ?_⟩
    rcases q101 with ⟨a107, a108, a109, a110⟩ | ⟨a111, a112, a113, a114⟩
    · have _q : True := trivial
      have z115 := tz_f (tk2_92)
      exact c_readSeq_w_at_116p (X := X) (k := k) (hP := hP) (d := d) (Vs := Vs) (sb := sb) (pb := pb) (hvb := hvb) (c0 := c0) (c1 := c1) (G := G) (A := A) (T := T) (lv := lv) (ln := ln) (li := li) (at0 := at0) (fk := fk) (nd := nd) (sy := sy) (na := na) (vi := vi) (le := le) (op0 := op0) (tk0 := tk0) (ec := ec) (hd := hd) (hW := hW) (e_ln := e_ln) (e_li := e_li) (e_at0 := e_at0) (e_fk := e_fk) (e_nd := e_nd) (e_sy := e_sy) (e_na := e_na) (e_vi := e_vi) (e_le := e_le) (e_op0 := e_op0) (e_tk0 := e_tk0) (e_ec := e_ec) (i_LT := i_LT) (i_SV := i_SV) (i_PQ := i_PQ) (h_lv := h_lv) (p_0 := p_0) (p_1 := p_1) (p_2 := p_2) (p_3 := p_3) (p_4 := p_4) (p_5 := p_5) (p_6 := p_6) (p_7 := p_7) (p_8 := p_8) (p_9 := p_9) (p_10 := p_10) L G89 A90 (n) (at2_91) (tk2_92) (fk2_93) (nd1) (op1) (sy1) (na1) (ec1) gL_0 gL_1 gL_2 hW94 hF102 hP103 hS104 hV105 ((e96)) ((e97)) ((e98)) (((hF95.1 31 rfl).trans (ex_nd1))) (((hF95.1 15 rfl).trans (ex_op1))) (((hF95.1 19 rfl).trans (ex_sy1))) (((hF95.1 28 rfl).trans (ex_na1))) (ec106) (((hF95.1 9 rfl).trans (fx_9))) (((hF95.1 29 rfl).trans (fx_29))) (by omega) (by omega) (by omega) (by omega) (by omega) (by omega) (by omega) (by omega) (by omega)
    · have _q : True := trivial
      exfalso
      omega
  · have _q : True := trivial
    refine jx_vr (pc_q := 116) (as := [.int (i32 (0))]) (st := []) rfl rfl rfl rfl ⟨rfl, rfl, Nat.le_of_ble_eq_true rfl⟩ rfl rfl (c_need (dd := d) (hd := by omega) (hW := hWx) (g := 0) (ln := ln) (e_ln := show Gx 9 = ln from (fx_9)) (le := le) (e_le := show Ax 4 (ln).toNat = le from (congrFun (hFx.2 4 rfl) _).trans (e_le)) (at0 := at1) (e_at0 := show Gx 10 = at1 from (ex_at1)) (fk := fk1) (e_fk := show Gx 16 = fk1 from (ex_fk1)) (tk0 := tk1) (e_tk0 := show Gx 11 = tk1 from (ex_tk1))  (h_g := ⟨(by decide), (by decide)⟩)  (p_0 := by omega)) (fun o V_q hq => ?_)
    obtain ⟨G116, A117, at2_118, tk2_119, fk2_120, rfl, rfl, hW121, hF122, e123, e124, e125, p126, p127, q128⟩ := hq
    have hF129 := Fr_tr hFx hF122 (Fr_sub (by decide)) (Fr_sub (by decide))
    have hP130 := Pf_f hPx hF122 (by decide)
    have hS131 := Fx_f hSx hF122 (by decide)
    have hV132 := Fx_f hVx hF122 (by decide)
    have ec133 : ecn A117 (G116 31) = ec1 := (ecn_f (hF122.2 15 rfl) (hF122.1 31 rfl)).trans ex_ec1
    have bat2_118 : (0 : Int) ≤ at2_118 ∧ at2_118 ≤ 3002 := e123 ▸ hW121.1 10
    have ztk2_119 := tz_b tk2_119
    have btk2_119 : (0 : Int) ≤ tk2_119 ∧ tk2_119 ≤ 5 := e124 ▸ hW121.1 11
    have bfk2_120 : (0 : Int) ≤ fk2_120 ∧ fk2_120 ≤ 6 := e125 ▸ hW121.1 16
    refine .inl ⟨rfl, ?_⟩
    rcases q128 with ⟨a134, a135, a136, a137⟩ | ⟨a138, a139, a140, a141⟩
    · have _q : True := trivial
      have z142 := tz_f (tk2_119)
      exact c_readSeq_w_at_116p (X := X) (k := k) (hP := hP) (d := d) (Vs := Vs) (sb := sb) (pb := pb) (hvb := hvb) (c0 := c0) (c1 := c1) (G := G) (A := A) (T := T) (lv := lv) (ln := ln) (li := li) (at0 := at0) (fk := fk) (nd := nd) (sy := sy) (na := na) (vi := vi) (le := le) (op0 := op0) (tk0 := tk0) (ec := ec) (hd := hd) (hW := hW) (e_ln := e_ln) (e_li := e_li) (e_at0 := e_at0) (e_fk := e_fk) (e_nd := e_nd) (e_sy := e_sy) (e_na := e_na) (e_vi := e_vi) (e_le := e_le) (e_op0 := e_op0) (e_tk0 := e_tk0) (e_ec := e_ec) (i_LT := i_LT) (i_SV := i_SV) (i_PQ := i_PQ) (h_lv := h_lv) (p_0 := p_0) (p_1 := p_1) (p_2 := p_2) (p_3 := p_3) (p_4 := p_4) (p_5 := p_5) (p_6 := p_6) (p_7 := p_7) (p_8 := p_8) (p_9 := p_9) (p_10 := p_10) L G116 A117 (n) (at2_118) (tk2_119) (fk2_120) (nd1) (op1) (sy1) (na1) (ec1) gL_0 gL_1 gL_2 hW121 hF129 hP130 hS131 hV132 ((e123)) ((e124)) ((e125)) (((hF122.1 31 rfl).trans (ex_nd1))) (((hF122.1 15 rfl).trans (ex_op1))) (((hF122.1 19 rfl).trans (ex_sy1))) (((hF122.1 28 rfl).trans (ex_na1))) (ec133) (((hF122.1 9 rfl).trans (fx_9))) (((hF122.1 29 rfl).trans (fx_29))) (by omega) (by omega) (by omega) (by omega) (by omega) (by omega) (by omega) (by omega) (by omega)
    · have _q : True := trivial
      exfalso
      omega
set_option maxRecDepth 20000 in
set_option maxHeartbeats 4000000 in
theorem c_readSeq_w_at_106 {X : jX} {k : Nat} (hP : RPw X k) {d : Nat} {Vs : Nat → Prop} {sb pb : Int} (hvb : VB Vs sb) {c0 c1 : jC} {G : Nat → Int} {A : Nat → Nat → Int} {T : jH} {lv : Int} {ln li at0 fk nd sy na vi le op0 tk0 ec : Int} (hd : 8 * k + 82 ≤ d + 1) (hW : Wk G A) (e_ln : G 9 = ln) (e_li : G 3 = li) (e_at0 : G 10 = at0) (e_fk : G 16 = fk) (e_nd : G 31 = nd) (e_sy : G 19 = sy) (e_na : G 28 = na) (e_vi : G 29 = vi) (e_le : A 4 (ln).toNat = le) (e_op0 : G 15 = op0) (e_tk0 : G 11 = tk0) (e_ec : ecn A (G 31) = ec) (i_LT : LT G A) (i_SV : SV Vs sb G A) (i_PQ : PQ Vs sb pb G A) (h_lv : (-2147483648 : Int) ≤ lv ∧ lv ≤ 2147483647) (p_0 : 0 ≤ lv ∧ lv ≤ 15) (p_1 : 18 - lv ≤ ((k + 1 : Nat) : Int)) (p_2 : fk = 0) (p_3 : ln < li) (p_4 : at0 ≤ le) (p_5 : op0 = 0) (p_6 : nd ≤ 2 * at0 - tz tk0 + 30) (p_7 : sy ≤ na + 2) (p_8 : vi ≤ sy) (p_9 : sb = sy) (p_10 : 1 ≤ tk0) : ∀ (L : jL) (Gx : Nat → Int) (Ax : Nat → Nat → Int) (n at1 tk1 fk1 nd1 op1 sy1 na1 sa1 ka1 exc ec1 : Int), jGet L 0 = some (.ref 66) → jGet L 1 = some (.int (i32 (lv))) → jGet L 2 = some (.int (i32 n)) → Wk Gx Ax → Fr [9, 10, 11, 12, 13, 14, 15, 16, 17, 18, 19, 28, 29, 31] [6, 7, 8, 9, 10, 11, 12, 14, 15, 16, 17, 18, 19, 20, 21, 22, 23, 24, 28] G A Gx Ax → Pf nd A Ax → Fx sr (sy) A Ax → Fx [14] (vi) A Ax → Gx 10 = at1 → Gx 11 = tk1 → Gx 16 = fk1 → Gx 31 = nd1 → Gx 15 = op1 → Gx 19 = sy1 → Gx 28 = na1 → Ax 17 (n).toNat = sa1 → Ax 7 (sa1).toNat = ka1 → Ax 19 (n).toNat = exc → ecn Ax (Gx 31) = ec1 → Gx 9 = ln → Gx 29 = vi → ((-2147483648 : Int) ≤ n ∧ n ≤ 2147483647) → (fk1 = 0) → (at0 ≤ at1) → (at1 ≤ le) → (n = nd) → (n ≤ 6998 ∧ n < nd1) → (sy1 = sy + 1) → (sa1 = sy) → (sy1 ≤ na1 + 2) → (op1 = 0) → (nd1 - nd ≤ (2 * at1 - tz tk1) - (2 * at0 - tz tk0)) → (ka1 = 9) → (ND Ax (n) (27) (sa1) (0) (exc) (0) (0) (0)) → (wE Ax Vs sb (20) (exc) (n + 1) (nd1)) → (nd1 - nd + 5 * (ec1 - ec) ≤ (2 * at1 - tz tk1) - (2 * at0 - tz tk0)) → (NdM Ax (nd) (nd1) (sy)) → wj X d jm297 (106, L, [], rV c0 c1 Gx Ax T) (fun o V_q => ∃ (G_q : Nat → Int) (A_q : Nat → Nat → Int) (r : Int) (ln2 : Int) (at2 : Int) (fk2 : Int) (nd2 : Int) (sy2 : Int) (na2 : Int) (vi2 : Int) (lf2 : Int) (ec2 : Int), V_q = rV c0 c1 G_q A_q T ∧ o = .inl (some (.int (i32 r))) ∧ Wk G_q A_q ∧ Fr [9, 10, 11, 12, 13, 14, 15, 16, 17, 18, 19, 28, 29, 31] [6, 7, 8, 9, 10, 11, 12, 14, 15, 16, 17, 18, 19, 20, 21, 22, 23, 24, 28] G A G_q A_q ∧ Pf nd A A_q ∧ Fx sr (sy) A A_q ∧ Fx [14] (vi) A A_q ∧ ((-2147483648 : Int) ≤ r ∧ r ≤ 2147483647) ∧ G_q 9 = ln2 ∧ G_q 10 = at2 ∧ G_q 16 = fk2 ∧ G_q 31 = nd2 ∧ G_q 19 = sy2 ∧ G_q 28 = na2 ∧ G_q 29 = vi2 ∧ A_q 3 (ln2).toNat = lf2 ∧ ecn A_q (G_q 31) = ec2 ∧ (at0 ≤ at2) ∧ (nd ≤ nd2) ∧ (sy ≤ sy2) ∧ (sy2 ≤ na2 + 2) ∧ (vi ≤ vi2) ∧ (vi2 ≤ vi + 1) ∧ (0 ≤ r) ∧ (r ≤ 6999) ∧ (ln ≤ ln2) ∧ (ln2 ≤ li) ∧ (((1 ≤ fk2) ∧ (nd2 - nd ≤ 2 * at2 - (2 * at0 - tz tk0) + 14)) ∨ ((fk2 = 0) ∧ (vi2 = vi) ∧ (ln < ln2) ∧ (nd2 - nd ≤ 2 * at2 - (2 * at0 - tz tk0)) ∧ (at2 < lf2 ∨ li ≤ ln2) ∧ (nd ≤ r) ∧ (r < nd2) ∧ (wSt A_q (sy2) pb (wP A_q (sy2) pb (k)) (Vs) (r) (nd) (nd2) (sy) (sy2)) ∧ (NX A_q (r)) ∧ (nd2 - nd + 5 * (ec2 - ec) ≤ 2 * at2 - (2 * at0 - tz tk0)) ∧ (NdM A_q (nd) (nd2) (sy))))) := by
  have hF0 : Fr [9, 10, 11, 12, 13, 14, 15, 16, 17, 18, 19, 28, 29, 31] [6, 7, 8, 9, 10, 11, 12, 14, 15, 16, 17, 18, 19, 20, 21, 22, 23, 24, 28] G A G A := Fr_rf
  have hP0 : Pf nd A A := Pf_rf
  have hS0 : Fx sr (sy) A A := Fx_rf
  have hV0 : Fx [14] (vi) A A := Fx_rf
  have b_ln : (0 : Int) ≤ ln ∧ ln ≤ 3000 := e_ln ▸ hW.1 9
  have b_li : (0 : Int) ≤ li ∧ li ≤ 3000 := e_li ▸ hW.1 3
  have b_at0 : (0 : Int) ≤ at0 ∧ at0 ≤ 3002 := e_at0 ▸ hW.1 10
  have b_fk : (0 : Int) ≤ fk ∧ fk ≤ 6 := e_fk ▸ hW.1 16
  have b_nd : (0 : Int) ≤ nd ∧ nd ≤ 6999 := e_nd ▸ hW.1 31
  have b_sy : (0 : Int) ≤ sy ∧ sy ≤ 202 := e_sy ▸ hW.1 19
  have b_na : (0 : Int) ≤ na ∧ na ≤ 200 := e_na ▸ hW.1 28
  have b_vi : (0 : Int) ≤ vi ∧ vi ≤ 202 := e_vi ▸ hW.1 29
  have b_le : (0 : Int) ≤ le ∧ le ≤ 3000 := e_le ▸ hW.2 4 _
  have b_op0 : (-2147483648 : Int) ≤ op0 ∧ op0 ≤ 2147483647 := e_op0 ▸ hW.1 15
  have z_tk0 := tz_f tk0
  have b_tk0 : (0 : Int) ≤ tk0 ∧ tk0 ≤ 5 := e_tk0 ▸ hW.1 11
  intro L Gx Ax n at1 tk1 fk1 nd1 op1 sy1 na1 sa1 ka1 exc ec1 gL_0 gL_1 gL_2 hWx hFx hPx hSx hVx ex_at1 ex_tk1 ex_fk1 ex_nd1 ex_op1 ex_sy1 ex_na1 ex_sa1 ex_ka1 ex_exc ex_ec1 fx_9 fx_29 rx_n iv_0 iv_1 iv_2 iv_3 iv_4 iv_5 iv_6 iv_7 iv_8 iv_9 iv_10 iv_11 iv_12 iv_13 iv_14
  have b_at1 : (0 : Int) ≤ at1 ∧ at1 ≤ 3002 := ex_at1 ▸ hWx.1 10
  have z_tk1 := tz_f tk1
  have b_tk1 : (0 : Int) ≤ tk1 ∧ tk1 ≤ 5 := ex_tk1 ▸ hWx.1 11
  have b_fk1 : (0 : Int) ≤ fk1 ∧ fk1 ≤ 6 := ex_fk1 ▸ hWx.1 16
  have b_nd1 : (0 : Int) ≤ nd1 ∧ nd1 ≤ 6999 := ex_nd1 ▸ hWx.1 31
  have b_op1 : (-2147483648 : Int) ≤ op1 ∧ op1 ≤ 2147483647 := ex_op1 ▸ hWx.1 15
  have b_sy1 : (0 : Int) ≤ sy1 ∧ sy1 ≤ 202 := ex_sy1 ▸ hWx.1 19
  have b_na1 : (0 : Int) ≤ na1 ∧ na1 ≤ 200 := ex_na1 ▸ hWx.1 28
  refine jx_ld (pc_q := 107) (l_q := L) (st_q := [.ref 66]) rfl (jl_aloadn gL_0) ?_
  refine jx_ld (pc_q := 108) (l_q := L) (st_q := [.ref 66, .ref 66]) rfl (jl_aloadn gL_0) ?_
  refine jx_ar (pc_q := 110) (st_q := [.int (i32 (13)), .ref 66, .ref 66]) rfl rfl rfl rfl ?_
  have b143 : (-2147483648 : Int) ≤ Gx 13 ∧ Gx 13 ≤ 2147483647 := hWx.1 13
  refine jx_vr (pc_q := 113) (as := [.int (i32 (13))]) (st := [.ref 66]) rfl rfl rfl rfl ⟨rfl, rfl, Nat.le_of_ble_eq_true rfl⟩ rfl rfl (c_isKey (dd := d) (hd := by omega) (hW := hWx) (k := 13) (tk := tk1) (e_tk := show Gx 11 = tk1 from (ex_tk1)) (tn := Gx 13) (e_tn := show Gx 13 = Gx 13 from rfl)  (h_k := ⟨(by decide), (by decide)⟩)  ) (fun o V_q hq => ?_)
  obtain ⟨r144, rfl, rfl, b145, q146⟩ := hq
  refine .inr ⟨_, rfl, ?_⟩
  rcases q146 with ⟨rfl, a147, a148, a149⟩ | rfl
  · have _q : True := trivial
    refine jx_vr (pc_q := 116) (as := [.int (i32 (1))]) (st := []) rfl rfl rfl rfl ⟨rfl, rfl, Nat.le_of_ble_eq_true rfl⟩ rfl rfl (c_need (dd := d) (hd := by omega) (hW := hWx) (g := 1) (ln := ln) (e_ln := show Gx 9 = ln from (fx_9)) (le := le) (e_le := show Ax 4 (ln).toNat = le from (congrFun (hFx.2 4 rfl) _).trans (e_le)) (at0 := at1) (e_at0 := show Gx 10 = at1 from (ex_at1)) (fk := fk1) (e_fk := show Gx 16 = fk1 from (ex_fk1)) (tk0 := tk1) (e_tk0 := show Gx 11 = tk1 from (ex_tk1))  (h_g := ⟨(by decide), (by decide)⟩)  (p_0 := by omega)) (fun o V_q hq => ?_)
    obtain ⟨G150, A151, at2_152, tk2_153, fk2_154, rfl, rfl, hW155, hF156, e157, e158, e159, p160, p161, q162⟩ := hq
    have hF163 := Fr_tr hFx hF156 (Fr_sub (by decide)) (Fr_sub (by decide))
    have hP164 := Pf_f hPx hF156 (by decide)
    have hS165 := Fx_f hSx hF156 (by decide)
    have hV166 := Fx_f hVx hF156 (by decide)
    have sf167 : ND A151 (n) (27) (sa1) (0) (exc) (0) (0) (0) := ND_ag (by omega) (Ag_fr hF156 (by decide)) iv_11
    have sf168 : wE A151 Vs sb (20) (exc) (n + 1) (nd1) := wE_ag (by omega) (Sg_fr hF156 (by decide)) (Ag_fr hF156 (by decide)) iv_12
    have sf169 : NdM A151 (nd) (nd1) (sy) := NdM_f hF156 (by decide) iv_14
    have ec170 : ecn A151 (G150 31) = ec1 := (ecn_f (hF156.2 15 rfl) (hF156.1 31 rfl)).trans ex_ec1
    have bat2_152 : (0 : Int) ≤ at2_152 ∧ at2_152 ≤ 3002 := e157 ▸ hW155.1 10
    have ztk2_153 := tz_b tk2_153
    have btk2_153 : (0 : Int) ≤ tk2_153 ∧ tk2_153 ≤ 5 := e158 ▸ hW155.1 11
    have bfk2_154 : (0 : Int) ≤ fk2_154 ∧ fk2_154 ≤ 6 := e159 ▸ hW155.1 16
    refine .inl ⟨rfl, ?_⟩
    rcases q162 with ⟨a171, a172, a173, a174⟩ | ⟨a175, a176, a177, a178⟩
    · have _q : True := trivial
      have z179 := tz_f (tk2_153)
      exact c_readSeq_w_at_116p (X := X) (k := k) (hP := hP) (d := d) (Vs := Vs) (sb := sb) (pb := pb) (hvb := hvb) (c0 := c0) (c1 := c1) (G := G) (A := A) (T := T) (lv := lv) (ln := ln) (li := li) (at0 := at0) (fk := fk) (nd := nd) (sy := sy) (na := na) (vi := vi) (le := le) (op0 := op0) (tk0 := tk0) (ec := ec) (hd := hd) (hW := hW) (e_ln := e_ln) (e_li := e_li) (e_at0 := e_at0) (e_fk := e_fk) (e_nd := e_nd) (e_sy := e_sy) (e_na := e_na) (e_vi := e_vi) (e_le := e_le) (e_op0 := e_op0) (e_tk0 := e_tk0) (e_ec := e_ec) (i_LT := i_LT) (i_SV := i_SV) (i_PQ := i_PQ) (h_lv := h_lv) (p_0 := p_0) (p_1 := p_1) (p_2 := p_2) (p_3 := p_3) (p_4 := p_4) (p_5 := p_5) (p_6 := p_6) (p_7 := p_7) (p_8 := p_8) (p_9 := p_9) (p_10 := p_10) L G150 A151 (n) (at2_152) (tk2_153) (fk2_154) (nd1) (op1) (sy1) (na1) (ec1) gL_0 gL_1 gL_2 hW155 hF163 hP164 hS165 hV166 ((e157)) ((e158)) ((e159)) (((hF156.1 31 rfl).trans (ex_nd1))) (((hF156.1 15 rfl).trans (ex_op1))) (((hF156.1 19 rfl).trans (ex_sy1))) (((hF156.1 28 rfl).trans (ex_na1))) (ec170) (((hF156.1 9 rfl).trans (fx_9))) (((hF156.1 29 rfl).trans (fx_29))) (by omega) (by omega) (by omega) (by omega) (by omega) (by omega) (by omega) (by omega) (by omega)
    · have _q : True := trivial
      have pz180 : at1 + tz tk2_153 ≤ at2_152 := by omega
      refine jx_ld (pc_q := 117) (l_q := L) (st_q := [.ref 66]) rfl (jl_aloadn gL_0) ?_
      refine jr_get (pc_q := 120) (i := 37) (v := .ref 87) rfl rfl (by decide) rfl rfl ?_
      refine jx_ld (pc_q := 121) (l_q := L) (st_q := [.int (i32 (n)), .ref 87]) rfl (jl_iloadn gL_2) ?_
      refine jx_ld (pc_q := 122) (l_q := L) (st_q := [.ref 66, .int (i32 (n)), .ref 87]) rfl (jl_aloadn gL_0) ?_
      refine jx_vr (pc_q := 125) (as := []) (st := [.int (i32 (n)), .ref 87]) rfl rfl rfl rfl ⟨rfl, rfl, Nat.le_of_ble_eq_true rfl⟩ rfl rfl (REw_all X 9 (dd := d) (hd := by omega) (hW := hW155)  (ln := ln) (e_ln := show G150 9 = ln from ((hF156.1 9 rfl).trans (fx_9))) (le := le) (e_le := show A151 4 (ln).toNat = le from (congrFun ((hF156.2 4 rfl).trans (hFx.2 4 rfl)) _).trans (e_le)) (at0 := at2_152) (e_at0 := show G150 10 = at2_152 from (e157)) (fk := fk2_154) (e_fk := show G150 16 = fk2_154 from (e159)) (op0 := op1) (e_op0 := show G150 15 = op1 from ((hF156.1 15 rfl).trans (ex_op1))) (nd := nd1) (e_nd := show G150 31 = nd1 from ((hF156.1 31 rfl).trans (ex_nd1))) (tk0 := tk2_153) (e_tk0 := show G150 11 = tk2_153 from (e158)) (ec := ec1) (e_ec := show ecn A151 (G150 31) = ec1 from ec170) (sy := sy1) (e_sy := show G150 19 = sy1 from ((hF156.1 19 rfl).trans (ex_sy1))) (i_SV := (SV_fx i_SV e_vi (show G150 29 = vi from ((hF156.1 29 rfl).trans (fx_29))) (by omega) hV166))   (p_0 := by omega) (p_1 := by omega) (p_2 := by omega) (p_3 := by omega) (p_4 := by omega) (p_5 := by omega)) (fun o V_q hq => ?_)
      obtain ⟨G181, A182, r183, at2_184, fk2_185, op2_186, nd2_187, tk2_188, ec2_189, rfl, rfl, hW190, hF191, hQ192, b193, e194, e195, e196, e197, e198, e199, p200, p201, p202, p203, p204, p205, q206⟩ := hq
      have hF207 := Fr_tr hF163 hF191 (Fr_sub (by decide)) (Fr_sub (by decide))
      have k208 : A182 17 (n).toNat = sa1 := (hQ192 17 _ rfl (by omega)).trans (show A151 17 (n).toNat = sa1 from (congrFun (hF156.2 17 rfl) _).trans (ex_sa1))
      have k209 : A182 19 (n).toNat = exc := (hQ192 19 _ rfl (by omega)).trans (show A151 19 (n).toNat = exc from (congrFun (hF156.2 19 rfl) _).trans (ex_exc))
      have hP210 := Pf_tr hP164 hQ192 (by omega)
      have hS211 := Fx_f hS165 hF191 (by decide)
      have hV212 := Fx_f hV166 hF191 (by decide)
      have sf213 : ND A182 (n) (27) (sa1) (0) (exc) (0) (0) (0) := ND_ag (by omega) (Ag_pf hQ192 (by omega)) sf167
      have sf214 : wE A182 Vs sb (20) (exc) (n + 1) (nd1) := wE_ag (by omega) (Sg_fr hF191 (by decide)) (Ag_pf hQ192 (by omega)) sf168
      have sf215 : NdM A182 (nd) (nd1) (sy) := NdM_pf hQ192 (by omega) (by omega) sf169
      have bat2_184 : (0 : Int) ≤ at2_184 ∧ at2_184 ≤ 3002 := e194 ▸ hW190.1 10
      have bfk2_185 : (0 : Int) ≤ fk2_185 ∧ fk2_185 ≤ 6 := e195 ▸ hW190.1 16
      have bop2_186 : (-2147483648 : Int) ≤ op2_186 ∧ op2_186 ≤ 2147483647 := e196 ▸ hW190.1 15
      have bnd2_187 : (0 : Int) ≤ nd2_187 ∧ nd2_187 ≤ 6999 := e197 ▸ hW190.1 31
      have ztk2_188 := tz_b tk2_188
      have btk2_188 : (0 : Int) ≤ tk2_188 ∧ tk2_188 ≤ 5 := e198 ▸ hW190.1 11
      refine .inr ⟨_, rfl, ?_⟩
      rcases q206 with ⟨a216, a217, a218, a219, a220, a221⟩ | ⟨a222, a223, a224⟩ | ⟨a225, a226, a227, a228, a229, a230, a231, a232⟩
      · have _q : True := trivial
        exfalso
        omega
      · have _q : True := trivial
        refine jr_st (pc_q := 126) (i := 20) (m := 7000) (z := n) (y := r183) rfl (by decide) rfl (by decide) (by omega) (by omega) rfl ?_
        have hW234 : Wk G181 (uA A182 20 (n).toNat (r183)) := Wk_a hW190 (show (-2147483648 : Int) ≤ r183 by omega) (show r183 ≤ (2147483647 : Int) by omega)
        have hF235 := Fr_a (z := r183) (k := 20) (n := (n).toNat) hF207 (by decide)
        obtain ⟨A233, eA233⟩ : ∃ q, q = uA A182 20 (n).toNat (r183) := ⟨_, rfl⟩
        rw [← eA233]
        rw [← eA233] at hW234 hF235
        have q236 : A233 20 (n).toNat = r183 := by rw [eA233]; exact uA_eq
        have hP237 : Pf nd A A233 := eA233 ▸ Pf_a hP210 (z := n) (by omega) (by omega)
        have hS238 : Fx sr (sy) A A233 := eA233 ▸ Fx_n hS211 rfl
        have hV239 : Fx [14] (vi) A A233 := eA233 ▸ Fx_n hV212 rfl
        have sf240 : ND A233 (n) (27) (sa1) (0) (exc) (r183) (0) (0) := ND_d eA233 sf213
        have sf241 : wE A233 Vs sb (20) (exc) (n + 1) (nd1) := wE_ag (by omega) (Sg_ne eA233 rfl) (Ag_st eA233 (by omega) (by omega)) sf214
        have sf242 : NdM A233 (nd) (nd1) (sy) := NdM_st eA233 (by decide) sf215
        have ec243 : ecn A233 (G181 31) = ec2_189 := (ecn_e ((congrFun eA233 15).trans (uA_ne (by decide)))).trans e199
        have z244 := tz_f (tk2_188)
        exact c_readSeq_w_at_126p (X := X) (k := k) (hP := hP) (d := d) (Vs := Vs) (sb := sb) (pb := pb) (hvb := hvb) (c0 := c0) (c1 := c1) (G := G) (A := A) (T := T) (lv := lv) (ln := ln) (li := li) (at0 := at0) (fk := fk) (nd := nd) (sy := sy) (na := na) (vi := vi) (le := le) (op0 := op0) (tk0 := tk0) (ec := ec) (hd := hd) (hW := hW) (e_ln := e_ln) (e_li := e_li) (e_at0 := e_at0) (e_fk := e_fk) (e_nd := e_nd) (e_sy := e_sy) (e_na := e_na) (e_vi := e_vi) (e_le := e_le) (e_op0 := e_op0) (e_tk0 := e_tk0) (e_ec := e_ec) (i_LT := i_LT) (i_SV := i_SV) (i_PQ := i_PQ) (h_lv := h_lv) (p_0 := p_0) (p_1 := p_1) (p_2 := p_2) (p_3 := p_3) (p_4 := p_4) (p_5 := p_5) (p_6 := p_6) (p_7 := p_7) (p_8 := p_8) (p_9 := p_9) (p_10 := p_10) L G181 A233 (n) (at2_184) (tk2_188) (fk2_185) (nd2_187) (op2_186) (sy1) (na1) (ec2_189) gL_0 gL_1 gL_2 hW234 hF235 hP237 hS238 hV239 ((e194)) ((e198)) ((e195)) ((e197)) ((e196)) (((hF191.1 19 rfl).trans ((hF156.1 19 rfl).trans (ex_sy1)))) (((hF191.1 28 rfl).trans ((hF156.1 28 rfl).trans (ex_na1)))) (ec243) (((hF191.1 9 rfl).trans ((hF156.1 9 rfl).trans (fx_9)))) (((hF191.1 29 rfl).trans ((hF156.1 29 rfl).trans (fx_29)))) (by omega) (by omega) (by omega) (by omega) (by omega) (by omega) (by omega) (by omega) (by omega)
      · have _q : True := trivial
        refine jr_st (pc_q := 126) (i := 20) (m := 7000) (z := n) (y := r183) rfl (by decide) rfl (by decide) (by omega) (by omega) rfl ?_
        have hW246 : Wk G181 (uA A182 20 (n).toNat (r183)) := Wk_a hW190 (show (-2147483648 : Int) ≤ r183 by omega) (show r183 ≤ (2147483647 : Int) by omega)
        have hF247 := Fr_a (z := r183) (k := 20) (n := (n).toNat) hF207 (by decide)
        obtain ⟨A245, eA245⟩ : ∃ q, q = uA A182 20 (n).toNat (r183) := ⟨_, rfl⟩
        rw [← eA245]
        rw [← eA245] at hW246 hF247
        have q248 : A245 20 (n).toNat = r183 := by rw [eA245]; exact uA_eq
        have hP249 : Pf nd A A245 := eA245 ▸ Pf_a hP210 (z := n) (by omega) (by omega)
        have hS250 : Fx sr (sy) A A245 := eA245 ▸ Fx_n hS211 rfl
        have hV251 : Fx [14] (vi) A A245 := eA245 ▸ Fx_n hV212 rfl
        have sf252 : ND A245 (n) (27) (sa1) (0) (exc) (r183) (0) (0) := ND_d eA245 sf213
        have sf253 : wE A245 Vs sb (20) (exc) (n + 1) (nd1) := wE_ag (by omega) (Sg_ne eA245 rfl) (Ag_st eA245 (by omega) (by omega)) sf214
        have sf254 : NdM A245 (nd) (nd1) (sy) := NdM_st eA245 (by decide) sf215
        have sf255 : wE A245 Vs sb (2 * 9 + 2) (r183) (nd1) (nd2_187) := wE_ag (by omega) (Sg_ne eA245 rfl) (Ag_st eA245 (by omega) (by omega)) a228
        have sf256 : NdM A245 (nd1) (nd2_187) (sy1) := NdM_st eA245 (by decide) a230
        have ec257 : ecn A245 (G181 31) = ec2_189 := (ecn_e ((congrFun eA245 15).trans (uA_ne (by decide)))).trans e199
        refine jx_ld (pc_q := 127) (l_q := L) (st_q := [.ref 66]) rfl (jl_aloadn gL_0) ?_
        refine jx_vr (pc_q := 130) (as := []) (st := []) rfl rfl rfl rfl ⟨rfl, rfl, Nat.le_of_ble_eq_true rfl⟩ rfl rfl (c_endLine (dd := d) (hd := by omega) (hW := hW246)  (ln := ln) (e_ln := show G181 9 = ln from ((hF191.1 9 rfl).trans ((hF156.1 9 rfl).trans (fx_9)))) (li := li) (e_li := show G181 3 = li from ((hF191.1 3 rfl).trans ((hF156.1 3 rfl).trans ((hFx.1 3 rfl).trans (e_li))))) (fk := fk2_185) (e_fk := show G181 16 = fk2_185 from (e195)) (tk0 := tk2_188) (e_tk0 := show G181 11 = tk2_188 from (e198))    (p_0 := by omega)) (fun o V_q hq => ?_)
        obtain ⟨G258, A259, ln2_260, fk2_261, rfl, rfl, hW262, hF263, e264, e265, q266⟩ := hq
        have hF267 := Fr_tr hF247 hF263 (Fr_sub (by decide)) (Fr_sub (by decide))
        have hP268 := Pf_f hP249 hF263 (by decide)
        have hS269 := Fx_f hS250 hF263 (by decide)
        have hV270 := Fx_f hV251 hF263 (by decide)
        have sf271 : ND A259 (n) (27) (sa1) (0) (exc) (r183) (0) (0) := ND_ag (by omega) (Ag_fr hF263 (by decide)) sf252
        have sf272 : wE A259 Vs sb (20) (exc) (n + 1) (nd1) := wE_ag (by omega) (Sg_fr hF263 (by decide)) (Ag_fr hF263 (by decide)) sf253
        have sf273 : NdM A259 (nd) (nd1) (sy) := NdM_f hF263 (by decide) sf254
        have sf274 : wE A259 Vs sb (2 * 9 + 2) (r183) (nd1) (nd2_187) := wE_ag (by omega) (Sg_fr hF263 (by decide)) (Ag_fr hF263 (by decide)) sf255
        have sf275 : NdM A259 (nd1) (nd2_187) (sy1) := NdM_f hF263 (by decide) sf256
        have ec276 : ecn A259 (G258 31) = ec2_189 := (ecn_f (hF263.2 15 rfl) (hF263.1 31 rfl)).trans ec257
        have bln2_260 : (0 : Int) ≤ ln2_260 ∧ ln2_260 ≤ 3000 := e264 ▸ hW262.1 9
        have bfk2_261 : (0 : Int) ≤ fk2_261 ∧ fk2_261 ≤ 6 := e265 ▸ hW262.1 16
        refine .inl ⟨rfl, ?_⟩
        rcases q266 with ⟨a277, a278, a279, a280, a281⟩ | ⟨a282, a283⟩
        · have _q : True := trivial
          have b284 : (0 : Int) ≤ A 3 (ln2_260).toNat ∧ A 3 (ln2_260).toNat ≤ 3000 := hW.2 3 _
          have lt285 : ln2_260 < li → le < A 3 (ln2_260).toNat := fun hh => LT_nx (LT_ext (((hF263.1 3 rfl).trans ((hF191.1 3 rfl).trans ((hF156.1 3 rfl).trans (hFx.1 3 rfl))))) (((hF263.2 3 rfl).trans (((congrFun eA245 3).trans (uA_ne (by decide))).trans ((hF191.2 3 rfl).trans ((hF156.2 3 rfl).trans (hFx.2 3 rfl)))))) (((hF263.2 4 rfl).trans (((congrFun eA245 4).trans (uA_ne (by decide))).trans ((hF191.2 4 rfl).trans ((hF156.2 4 rfl).trans (hFx.2 4 rfl)))))) i_LT) (show G258 3 = li from ((hF263.1 3 rfl).trans ((hF191.1 3 rfl).trans ((hF156.1 3 rfl).trans ((hFx.1 3 rfl).trans (e_li)))))) (show A259 4 (ln).toNat = le from (congrFun ((hF263.2 4 rfl).trans (((congrFun eA245 4).trans (uA_ne (by decide))).trans ((hF191.2 4 rfl).trans ((hF156.2 4 rfl).trans (hFx.2 4 rfl))))) _).trans (e_le)) (show A259 3 (ln2_260).toNat = A 3 (ln2_260).toNat from (congrFun ((hF263.2 3 rfl).trans (((congrFun eA245 3).trans (uA_ne (by decide))).trans ((hF191.2 3 rfl).trans ((hF156.2 3 rfl).trans (hFx.2 3 rfl))))) _)) (show ln2_260 = ln + 1 by omega) (by omega) hh
          refine jx_ld (pc_q := 131) (l_q := L) (st_q := [.ref 66]) rfl (jl_aloadn gL_0) ?_
          refine jx_ld (pc_q := 132) (l_q := L) (st_q := [.int (i32 (n)), .ref 66]) rfl (jl_iloadn gL_2) ?_
          refine jx_ld (pc_q := 133) (l_q := L) (st_q := [.int (i32 (lv)), .int (i32 (n)), .ref 66]) rfl (jl_iloadn gL_1) ?_
          refine jx_vr (pc_q := 136) (as := [.int (i32 (n)), .int (i32 (lv))]) (st := []) rfl rfl rfl rfl ⟨rfl, rfl, Nat.le_of_ble_eq_true rfl⟩ rfl rfl (c_readIndexed_w (dd := d) (hP := hP) (zz := nd) (hd := by omega) (hW := hW262) (n := n) (lv := lv) (kk := 27) (bb := 0) (cc := exc) (de := r183) (xx := 0) (ln := ln2_260) (e_ln := show G258 9 = ln2_260 from (e264)) (li := li) (e_li := show G258 3 = li from ((hF263.1 3 rfl).trans ((hF191.1 3 rfl).trans ((hF156.1 3 rfl).trans ((hFx.1 3 rfl).trans (e_li)))))) (at0 := at2_184) (e_at0 := show G258 10 = at2_184 from ((hF263.1 10 rfl).trans (e194))) (fk := fk2_261) (e_fk := show G258 16 = fk2_261 from (e265)) (nd := nd2_187) (e_nd := show G258 31 = nd2_187 from ((hF263.1 31 rfl).trans (e197))) (sy := sy1) (e_sy := show G258 19 = sy1 from ((hF263.1 19 rfl).trans ((hF191.1 19 rfl).trans ((hF156.1 19 rfl).trans (ex_sy1))))) (na := na1) (e_na := show G258 28 = na1 from ((hF263.1 28 rfl).trans ((hF191.1 28 rfl).trans ((hF156.1 28 rfl).trans (ex_na1))))) (vi := vi) (e_vi := show G258 29 = vi from ((hF263.1 29 rfl).trans ((hF191.1 29 rfl).trans ((hF156.1 29 rfl).trans (fx_29))))) (lf := A 3 (ln2_260).toNat) (e_lf := show A259 3 (ln2_260).toNat = A 3 (ln2_260).toNat from (congrFun ((hF263.2 3 rfl).trans (((congrFun eA245 3).trans (uA_ne (by decide))).trans ((hF191.2 3 rfl).trans ((hF156.2 3 rfl).trans (hFx.2 3 rfl))))) _)) (sa := sa1) (e_sa := show A259 17 (n).toNat = sa1 from (congrFun ((hF263.2 17 rfl).trans ((congrFun eA245 17).trans (uA_ne (by decide)))) _).trans (k208)) (ksa := ka1) (e_ksa := show A259 7 (sa1).toNat = ka1 from (congrFun ((hF263.2 7 rfl).trans (((congrFun eA245 7).trans (uA_ne (by decide))).trans ((hF191.2 7 rfl).trans (hF156.2 7 rfl)))) _).trans (ex_ka1)) (ec := ec2_189) (e_ec := show ecn A259 (G258 31) = ec2_189 from ec276) (i_LT := (LT_ext (((hF263.1 3 rfl).trans ((hF191.1 3 rfl).trans ((hF156.1 3 rfl).trans (hFx.1 3 rfl))))) (((hF263.2 3 rfl).trans (((congrFun eA245 3).trans (uA_ne (by decide))).trans ((hF191.2 3 rfl).trans ((hF156.2 3 rfl).trans (hFx.2 3 rfl)))))) (((hF263.2 4 rfl).trans (((congrFun eA245 4).trans (uA_ne (by decide))).trans ((hF191.2 4 rfl).trans ((hF156.2 4 rfl).trans (hFx.2 4 rfl)))))) i_LT)) (i_SV := (SV_fx i_SV e_vi (show G258 29 = vi from ((hF263.1 29 rfl).trans ((hF191.1 29 rfl).trans ((hF156.1 29 rfl).trans (fx_29))))) (by omega) hV270)) (i_PQ := (PQ_fx i_PQ hS269 (by omega) (hF267.2 29 rfl) (hF267.2 30 rfl))) (hvb := hvb) (h_n := ⟨(Int.le_trans (by decide : (-2147483648 : Int) ≤ -2147483648) rx_n.1), (Int.le_trans rx_n.2 (by decide : (2147483647 : Int) ≤ 2147483647))⟩) (h_lv := ⟨(Int.le_trans (by decide : (-2147483648 : Int) ≤ -2147483648) h_lv.1), (Int.le_trans h_lv.2 (by decide : (2147483647 : Int) ≤ 2147483647))⟩)  (p_0 := by omega) (p_1 := by omega) (p_2 := by omega) (p_3 := by omega) (p_4 := by omega) (p_5 := by omega) (p_6 := by omega) (p_7 := by omega) (p_8 := by omega) (p_9 := by omega) (p_10 := by omega) (p_11 := by omega) (p_12 := by omega) (p_13 := by omega) (p_14 := by omega) (p_15 := by omega) (p_16 := sf271) (p_17 := (NdO_w (NdO_app (sy := sa1) (NdO_m (r := n) sf273) (NdO_m (r := n) sf275) (by omega) (by omega) (by omega)) (by omega) (by omega) (by omega)))) (fun o V_q hq => ?_)
          obtain ⟨G286, A287, ln2_288, at2_289, fk2_290, nd2_291, sy2_292, na2_293, vi2_294, lf2_295, f2_296, ec2_297, rfl, rfl, hW298, hF299, hQ300, hQ301, hQ302, hQ303, e304, e305, e306, e307, e308, e309, e310, e311, e312, e313, p314, p315, p316, p317, p318, p319, p320, q321⟩ := hq
          have hF322 := Fr_tr hF267 hF299 (Fr_sub (by decide)) (Fr_sub (by decide))
          have hP323 := Pf_tr hP268 hQ300 (by omega)
          have hS324 := Fx_tr hS269 hQ302 (by omega)
          have hV325 := Fx_tr hV270 hQ303 (by omega)
          have k326 : A287 7 (sa1).toNat = ka1 := (hQ302 7 _ rfl (by omega)).trans (show A259 7 (sa1).toNat = ka1 from (congrFun ((hF263.2 7 rfl).trans (((congrFun eA245 7).trans (uA_ne (by decide))).trans ((hF191.2 7 rfl).trans (hF156.2 7 rfl)))) _).trans (ex_ka1))
          have sf327 : wE A287 Vs sb (20) (exc) (n + 1) (nd1) := wE_ag (by omega) (Fx_su hQ302 (by omega)) (Ag_px hQ301 (by omega) (by omega)) sf272
          have sf328 : NdM A287 (n + 1) (nd1) (sy) := NdM_px hQ301 (by omega) (by omega) (by omega) (NdM_w (lo := n + 1) (hi := nd1) (sy := sy) sf273 (by omega) (by omega) (by omega))
          have sf329 : wE A287 Vs sb (2 * 9 + 2) (r183) (nd1) (nd2_187) := wE_ag (by omega) (Fx_su hQ302 (by omega)) (Ag_px hQ301 (by omega) (by omega)) sf274
          have sf330 : NdM A287 (nd1) (nd2_187) (sy1) := NdM_px hQ301 (by omega) (by omega) (by omega) sf275
          have bln2_288 : (0 : Int) ≤ ln2_288 ∧ ln2_288 ≤ 3000 := e304 ▸ hW298.1 9
          have bat2_289 : (0 : Int) ≤ at2_289 ∧ at2_289 ≤ 3002 := e305 ▸ hW298.1 10
          have bfk2_290 : (0 : Int) ≤ fk2_290 ∧ fk2_290 ≤ 6 := e306 ▸ hW298.1 16
          have bnd2_291 : (0 : Int) ≤ nd2_291 ∧ nd2_291 ≤ 6999 := e307 ▸ hW298.1 31
          have bsy2_292 : (0 : Int) ≤ sy2_292 ∧ sy2_292 ≤ 202 := e308 ▸ hW298.1 19
          have bna2_293 : (0 : Int) ≤ na2_293 ∧ na2_293 ≤ 200 := e309 ▸ hW298.1 28
          have bvi2_294 : (0 : Int) ≤ vi2_294 ∧ vi2_294 ≤ 202 := e310 ▸ hW298.1 29
          have blf2_295 : (0 : Int) ≤ lf2_295 ∧ lf2_295 ≤ 3000 := e311 ▸ hW298.2 3 _
          have bf2_296 : (-2147483648 : Int) ≤ f2_296 ∧ f2_296 ≤ 2147483647 := e312 ▸ hW298.2 21 _
          refine .inr ⟨_, rfl, ?_⟩
          rcases q321 with ⟨a331, a332⟩ | ⟨a333, a334, a335, a336, a337, a338, a339, a340, a341⟩
          · have _q : True := trivial
            refine jx_rt (v := some (.int (i32 (n)))) rfl rfl rfl rfl rfl rfl ?_
            exact ⟨_, _, _, ln2_288, at2_289, fk2_290, nd2_291, sy2_292, na2_293, vi2_294, lf2_295, ec2_297, rfl, rfl, hW298, hF322, hP323, hS324, hV325, by omega, (e304), (e305), (e306), (e307), (e308), (e309), (e310), (e311), e313, by omega, by omega, by omega, by omega, by omega, by omega, by omega, by omega, by omega, by omega, by first | exact Or.inl (⟨by omega, by omega⟩)⟩
          · have _q : True := trivial
            refine jx_rt (v := some (.int (i32 (n)))) rfl rfl rfl rfl rfl rfl ?_
            exact ⟨_, _, _, ln2_288, at2_289, fk2_290, nd2_291, sy2_292, na2_293, vi2_294, lf2_295, ec2_297, rfl, rfl, hW298, hF322, hP323, hS324, hV325, by omega, (e304), (e305), (e306), (e307), (e308), (e309), (e310), (e311), e313, by omega, by omega, by omega, by omega, by omega, by omega, by omega, by omega, by omega, by omega, by first | exact Or.inr ((⟨by omega, by omega, by omega, by omega, by omega, by omega, by omega, (wS_for (u := nd1) (v := nd2_187) (ND_ae a337 (by omega : sa1 = sy)) (by omega) (by rw [← (by omega : sa1 = sy)]; exact (show A287 7 (sa1).toNat = ka1 from (k326)).trans (by omega)) (by omega) (by omega) (by omega) (wE_sb (by omega) (wE_mono (by omega) (by omega) (by omega) sf327)) (wE_sb (by omega) (wE_mono (by omega) (by omega) (by omega) sf329)) (wP_vu (by omega : sa1 = sy) (wP_eq a338 (by omega) rfl (by omega) (by omega) (by omega) (by omega) (by omega) (by omega)))), (NX_nd a337), by omega, (NdM_w (NdM_app (sy := sy) (NdM_k a340 a337.1 (by decide) (by decide)) (NdM_app (sy := sy) sf328 (NdM_app (sy := sy) sf330 a341 (by omega) (by omega) (by omega)) (by omega) (by omega) (by omega)) (by omega) (by omega) (by omega)) (by omega) (by omega) (by omega))⟩))⟩
        · have _q : True := trivial
          refine jx_ld (pc_q := 131) (l_q := L) (st_q := [.ref 66]) rfl (jl_aloadn gL_0) ?_
          refine jx_ld (pc_q := 132) (l_q := L) (st_q := [.int (i32 (n)), .ref 66]) rfl (jl_iloadn gL_2) ?_
          refine jx_ld (pc_q := 133) (l_q := L) (st_q := [.int (i32 (lv)), .int (i32 (n)), .ref 66]) rfl (jl_iloadn gL_1) ?_
          refine jx_vr (pc_q := 136) (as := [.int (i32 (n)), .int (i32 (lv))]) (st := []) rfl rfl rfl rfl ⟨rfl, rfl, Nat.le_of_ble_eq_true rfl⟩ rfl rfl (c_readIndexed_f (dd := d) (hd := by omega) (hW := hW262) (n := n) (lv := lv) (fk := fk2_261) (e_fk := show G258 16 = fk2_261 from (e265))  (h_n := ⟨(Int.le_trans (by decide : (-2147483648 : Int) ≤ -2147483648) rx_n.1), (Int.le_trans rx_n.2 (by decide : (2147483647 : Int) ≤ 2147483647))⟩) (h_lv := ⟨(Int.le_trans (by decide : (-2147483648 : Int) ≤ -2147483648) h_lv.1), (Int.le_trans h_lv.2 (by decide : (2147483647 : Int) ≤ 2147483647))⟩)  (p_0 := by omega)) (fun o V_q hq => ?_)
          obtain ⟨r342, rfl, rfl, b343, p344, -⟩ := hq
          refine .inr ⟨_, rfl, ?_⟩
          refine jx_rt (v := some (.int (i32 (r342)))) rfl rfl rfl rfl rfl rfl ?_
          exact ⟨_, _, _, ln2_260, at2_184, fk2_261, nd2_187, sy1, na1, vi, A 3 (ln2_260).toNat, ec2_189, rfl, rfl, hW262, hF267, hP268, hS269, hV270, by omega, (e264), ((hF263.1 10 rfl).trans (e194)), (e265), ((hF263.1 31 rfl).trans (e197)), ((hF263.1 19 rfl).trans ((hF191.1 19 rfl).trans ((hF156.1 19 rfl).trans (ex_sy1)))), ((hF263.1 28 rfl).trans ((hF191.1 28 rfl).trans ((hF156.1 28 rfl).trans (ex_na1)))), ((hF263.1 29 rfl).trans ((hF191.1 29 rfl).trans ((hF156.1 29 rfl).trans (fx_29)))), (congrFun ((hF263.2 3 rfl).trans (((congrFun eA245 3).trans (uA_ne (by decide))).trans ((hF191.2 3 rfl).trans ((hF156.2 3 rfl).trans (hFx.2 3 rfl))))) _), ec276, by omega, by omega, by omega, by omega, by omega, by omega, by omega, by omega, by omega, by omega, by first | exact Or.inl (⟨by omega, by omega⟩)⟩
  · have _q : True := trivial
    refine jx_vr (pc_q := 116) (as := [.int (i32 (0))]) (st := []) rfl rfl rfl rfl ⟨rfl, rfl, Nat.le_of_ble_eq_true rfl⟩ rfl rfl (c_need (dd := d) (hd := by omega) (hW := hWx) (g := 0) (ln := ln) (e_ln := show Gx 9 = ln from (fx_9)) (le := le) (e_le := show Ax 4 (ln).toNat = le from (congrFun (hFx.2 4 rfl) _).trans (e_le)) (at0 := at1) (e_at0 := show Gx 10 = at1 from (ex_at1)) (fk := fk1) (e_fk := show Gx 16 = fk1 from (ex_fk1)) (tk0 := tk1) (e_tk0 := show Gx 11 = tk1 from (ex_tk1))  (h_g := ⟨(by decide), (by decide)⟩)  (p_0 := by omega)) (fun o V_q hq => ?_)
    obtain ⟨G346, A347, at2_348, tk2_349, fk2_350, rfl, rfl, hW351, hF352, e353, e354, e355, p356, p357, q358⟩ := hq
    have hF359 := Fr_tr hFx hF352 (Fr_sub (by decide)) (Fr_sub (by decide))
    have hP360 := Pf_f hPx hF352 (by decide)
    have hS361 := Fx_f hSx hF352 (by decide)
    have hV362 := Fx_f hVx hF352 (by decide)
    have sf363 : ND A347 (n) (27) (sa1) (0) (exc) (0) (0) (0) := ND_ag (by omega) (Ag_fr hF352 (by decide)) iv_11
    have sf364 : wE A347 Vs sb (20) (exc) (n + 1) (nd1) := wE_ag (by omega) (Sg_fr hF352 (by decide)) (Ag_fr hF352 (by decide)) iv_12
    have sf365 : NdM A347 (nd) (nd1) (sy) := NdM_f hF352 (by decide) iv_14
    have ec366 : ecn A347 (G346 31) = ec1 := (ecn_f (hF352.2 15 rfl) (hF352.1 31 rfl)).trans ex_ec1
    have bat2_348 : (0 : Int) ≤ at2_348 ∧ at2_348 ≤ 3002 := e353 ▸ hW351.1 10
    have ztk2_349 := tz_b tk2_349
    have btk2_349 : (0 : Int) ≤ tk2_349 ∧ tk2_349 ≤ 5 := e354 ▸ hW351.1 11
    have bfk2_350 : (0 : Int) ≤ fk2_350 ∧ fk2_350 ≤ 6 := e355 ▸ hW351.1 16
    refine .inl ⟨rfl, ?_⟩
    rcases q358 with ⟨a367, a368, a369, a370⟩ | ⟨a371, a372, a373, a374⟩
    · have _q : True := trivial
      have z375 := tz_f (tk2_349)
      exact c_readSeq_w_at_116p (X := X) (k := k) (hP := hP) (d := d) (Vs := Vs) (sb := sb) (pb := pb) (hvb := hvb) (c0 := c0) (c1 := c1) (G := G) (A := A) (T := T) (lv := lv) (ln := ln) (li := li) (at0 := at0) (fk := fk) (nd := nd) (sy := sy) (na := na) (vi := vi) (le := le) (op0 := op0) (tk0 := tk0) (ec := ec) (hd := hd) (hW := hW) (e_ln := e_ln) (e_li := e_li) (e_at0 := e_at0) (e_fk := e_fk) (e_nd := e_nd) (e_sy := e_sy) (e_na := e_na) (e_vi := e_vi) (e_le := e_le) (e_op0 := e_op0) (e_tk0 := e_tk0) (e_ec := e_ec) (i_LT := i_LT) (i_SV := i_SV) (i_PQ := i_PQ) (h_lv := h_lv) (p_0 := p_0) (p_1 := p_1) (p_2 := p_2) (p_3 := p_3) (p_4 := p_4) (p_5 := p_5) (p_6 := p_6) (p_7 := p_7) (p_8 := p_8) (p_9 := p_9) (p_10 := p_10) L G346 A347 (n) (at2_348) (tk2_349) (fk2_350) (nd1) (op1) (sy1) (na1) (ec1) gL_0 gL_1 gL_2 hW351 hF359 hP360 hS361 hV362 ((e353)) ((e354)) ((e355)) (((hF352.1 31 rfl).trans (ex_nd1))) (((hF352.1 15 rfl).trans (ex_op1))) (((hF352.1 19 rfl).trans (ex_sy1))) (((hF352.1 28 rfl).trans (ex_na1))) (ec366) (((hF352.1 9 rfl).trans (fx_9))) (((hF352.1 29 rfl).trans (fx_29))) (by omega) (by omega) (by omega) (by omega) (by omega) (by omega) (by omega) (by omega) (by omega)
    · have _q : True := trivial
      exfalso
      omega
set_option maxRecDepth 20000 in
set_option maxHeartbeats 4000000 in
theorem c_readSeq_w_at_96p {X : jX} {k : Nat} (hP : RPw X k) {d : Nat} {Vs : Nat → Prop} {sb pb : Int} (hvb : VB Vs sb) {c0 c1 : jC} {G : Nat → Int} {A : Nat → Nat → Int} {T : jH} {lv : Int} {ln li at0 fk nd sy na vi le op0 tk0 ec : Int} (hd : 8 * k + 82 ≤ d + 1) (hW : Wk G A) (e_ln : G 9 = ln) (e_li : G 3 = li) (e_at0 : G 10 = at0) (e_fk : G 16 = fk) (e_nd : G 31 = nd) (e_sy : G 19 = sy) (e_na : G 28 = na) (e_vi : G 29 = vi) (e_le : A 4 (ln).toNat = le) (e_op0 : G 15 = op0) (e_tk0 : G 11 = tk0) (e_ec : ecn A (G 31) = ec) (i_LT : LT G A) (i_SV : SV Vs sb G A) (i_PQ : PQ Vs sb pb G A) (h_lv : (-2147483648 : Int) ≤ lv ∧ lv ≤ 2147483647) (p_0 : 0 ≤ lv ∧ lv ≤ 15) (p_1 : 18 - lv ≤ ((k + 1 : Nat) : Int)) (p_2 : fk = 0) (p_3 : ln < li) (p_4 : at0 ≤ le) (p_5 : op0 = 0) (p_6 : nd ≤ 2 * at0 - tz tk0 + 30) (p_7 : sy ≤ na + 2) (p_8 : vi ≤ sy) (p_9 : sb = sy) (p_10 : 1 ≤ tk0) : ∀ (L : jL) (Gx : Nat → Int) (Ax : Nat → Nat → Int) (n at1 tk1 fk1 nd1 op1 sy1 na1 ec1 : Int), jGet L 0 = some (.ref 66) → jGet L 1 = some (.int (i32 (lv))) → jGet L 2 = some (.int (i32 n)) → Wk Gx Ax → Fr [9, 10, 11, 12, 13, 14, 15, 16, 17, 18, 19, 28, 29, 31] [6, 7, 8, 9, 10, 11, 12, 14, 15, 16, 17, 18, 19, 20, 21, 22, 23, 24, 28] G A Gx Ax → Pf nd A Ax → Fx sr (sy) A Ax → Fx [14] (vi) A Ax → Gx 10 = at1 → Gx 11 = tk1 → Gx 16 = fk1 → Gx 31 = nd1 → Gx 15 = op1 → Gx 19 = sy1 → Gx 28 = na1 → ecn Ax (Gx 31) = ec1 → Gx 9 = ln → Gx 29 = vi → ((-2147483648 : Int) ≤ n ∧ n ≤ 2147483647) → (1 ≤ fk1) → (at0 ≤ at1) → (at1 ≤ le) → (nd ≤ n ∧ n ≤ 6998 ∧ n < nd1) → (sy ≤ sy1) → (sy1 ≤ na1 + 2) → (0 ≤ op1 ∧ op1 ≤ 9) → (nd1 - nd ≤ 2 * at1 - 2 * at0 + 8) → wj X d jm297 (96, L, [], rV c0 c1 Gx Ax T) (fun o V_q => ∃ (G_q : Nat → Int) (A_q : Nat → Nat → Int) (r : Int) (ln2 : Int) (at2 : Int) (fk2 : Int) (nd2 : Int) (sy2 : Int) (na2 : Int) (vi2 : Int) (lf2 : Int) (ec2 : Int), V_q = rV c0 c1 G_q A_q T ∧ o = .inl (some (.int (i32 r))) ∧ Wk G_q A_q ∧ Fr [9, 10, 11, 12, 13, 14, 15, 16, 17, 18, 19, 28, 29, 31] [6, 7, 8, 9, 10, 11, 12, 14, 15, 16, 17, 18, 19, 20, 21, 22, 23, 24, 28] G A G_q A_q ∧ Pf nd A A_q ∧ Fx sr (sy) A A_q ∧ Fx [14] (vi) A A_q ∧ ((-2147483648 : Int) ≤ r ∧ r ≤ 2147483647) ∧ G_q 9 = ln2 ∧ G_q 10 = at2 ∧ G_q 16 = fk2 ∧ G_q 31 = nd2 ∧ G_q 19 = sy2 ∧ G_q 28 = na2 ∧ G_q 29 = vi2 ∧ A_q 3 (ln2).toNat = lf2 ∧ ecn A_q (G_q 31) = ec2 ∧ (at0 ≤ at2) ∧ (nd ≤ nd2) ∧ (sy ≤ sy2) ∧ (sy2 ≤ na2 + 2) ∧ (vi ≤ vi2) ∧ (vi2 ≤ vi + 1) ∧ (0 ≤ r) ∧ (r ≤ 6999) ∧ (ln ≤ ln2) ∧ (ln2 ≤ li) ∧ (((1 ≤ fk2) ∧ (nd2 - nd ≤ 2 * at2 - (2 * at0 - tz tk0) + 14)) ∨ ((fk2 = 0) ∧ (vi2 = vi) ∧ (ln < ln2) ∧ (nd2 - nd ≤ 2 * at2 - (2 * at0 - tz tk0)) ∧ (at2 < lf2 ∨ li ≤ ln2) ∧ (nd ≤ r) ∧ (r < nd2) ∧ (wSt A_q (sy2) pb (wP A_q (sy2) pb (k)) (Vs) (r) (nd) (nd2) (sy) (sy2)) ∧ (NX A_q (r)) ∧ (nd2 - nd + 5 * (ec2 - ec) ≤ 2 * at2 - (2 * at0 - tz tk0)) ∧ (NdM A_q (nd) (nd2) (sy))))) := by
  have hF0 : Fr [9, 10, 11, 12, 13, 14, 15, 16, 17, 18, 19, 28, 29, 31] [6, 7, 8, 9, 10, 11, 12, 14, 15, 16, 17, 18, 19, 20, 21, 22, 23, 24, 28] G A G A := Fr_rf
  have hP0 : Pf nd A A := Pf_rf
  have hS0 : Fx sr (sy) A A := Fx_rf
  have hV0 : Fx [14] (vi) A A := Fx_rf
  have b_ln : (0 : Int) ≤ ln ∧ ln ≤ 3000 := e_ln ▸ hW.1 9
  have b_li : (0 : Int) ≤ li ∧ li ≤ 3000 := e_li ▸ hW.1 3
  have b_at0 : (0 : Int) ≤ at0 ∧ at0 ≤ 3002 := e_at0 ▸ hW.1 10
  have b_fk : (0 : Int) ≤ fk ∧ fk ≤ 6 := e_fk ▸ hW.1 16
  have b_nd : (0 : Int) ≤ nd ∧ nd ≤ 6999 := e_nd ▸ hW.1 31
  have b_sy : (0 : Int) ≤ sy ∧ sy ≤ 202 := e_sy ▸ hW.1 19
  have b_na : (0 : Int) ≤ na ∧ na ≤ 200 := e_na ▸ hW.1 28
  have b_vi : (0 : Int) ≤ vi ∧ vi ≤ 202 := e_vi ▸ hW.1 29
  have b_le : (0 : Int) ≤ le ∧ le ≤ 3000 := e_le ▸ hW.2 4 _
  have b_op0 : (-2147483648 : Int) ≤ op0 ∧ op0 ≤ 2147483647 := e_op0 ▸ hW.1 15
  have z_tk0 := tz_f tk0
  have b_tk0 : (0 : Int) ≤ tk0 ∧ tk0 ≤ 5 := e_tk0 ▸ hW.1 11
  intro L Gx Ax n at1 tk1 fk1 nd1 op1 sy1 na1 ec1 gL_0 gL_1 gL_2 hWx hFx hPx hSx hVx ex_at1 ex_tk1 ex_fk1 ex_nd1 ex_op1 ex_sy1 ex_na1 ex_ec1 fx_9 fx_29 rx_n iv_0 iv_1 iv_2 iv_3 iv_4 iv_5 iv_6 iv_7
  have b_at1 : (0 : Int) ≤ at1 ∧ at1 ≤ 3002 := ex_at1 ▸ hWx.1 10
  have z_tk1 := tz_f tk1
  have b_tk1 : (0 : Int) ≤ tk1 ∧ tk1 ≤ 5 := ex_tk1 ▸ hWx.1 11
  have b_fk1 : (0 : Int) ≤ fk1 ∧ fk1 ≤ 6 := ex_fk1 ▸ hWx.1 16
  have b_nd1 : (0 : Int) ≤ nd1 ∧ nd1 ≤ 6999 := ex_nd1 ▸ hWx.1 31
  have b_op1 : (-2147483648 : Int) ≤ op1 ∧ op1 ≤ 2147483647 := ex_op1 ▸ hWx.1 15
  have b_sy1 : (0 : Int) ≤ sy1 ∧ sy1 ≤ 202 := ex_sy1 ▸ hWx.1 19
  have b_na1 : (0 : Int) ≤ na1 ∧ na1 ≤ 200 := ex_na1 ▸ hWx.1 28
  refine jx_ld (pc_q := 97) (l_q := L) (st_q := [.ref 66]) rfl (jl_aloadn gL_0) ?_
  refine jr_get (pc_q := 100) (i := 36) (v := .ref 86) rfl rfl (by decide) rfl rfl ?_
  refine jx_ld (pc_q := 101) (l_q := L) (st_q := [.int (i32 (n)), .ref 86]) rfl (jl_iloadn gL_2) ?_
  refine jx_ld (pc_q := 102) (l_q := L) (st_q := [.ref 66, .int (i32 (n)), .ref 86]) rfl (jl_aloadn gL_0) ?_
  refine jx_vr (pc_q := 105) (as := []) (st := [.int (i32 (n)), .ref 86]) rfl rfl rfl rfl ⟨rfl, rfl, Nat.le_of_ble_eq_true rfl⟩ rfl rfl (REw_all X 9 (dd := d) (hd := by omega) (hW := hWx)  (ln := ln) (e_ln := show Gx 9 = ln from (fx_9)) (le := le) (e_le := show Ax 4 (ln).toNat = le from (congrFun (hFx.2 4 rfl) _).trans (e_le)) (at0 := at1) (e_at0 := show Gx 10 = at1 from (ex_at1)) (fk := fk1) (e_fk := show Gx 16 = fk1 from (ex_fk1)) (op0 := op1) (e_op0 := show Gx 15 = op1 from (ex_op1)) (nd := nd1) (e_nd := show Gx 31 = nd1 from (ex_nd1)) (tk0 := tk1) (e_tk0 := show Gx 11 = tk1 from (ex_tk1)) (ec := ec1) (e_ec := show ecn Ax (Gx 31) = ec1 from ex_ec1) (sy := sy1) (e_sy := show Gx 19 = sy1 from (ex_sy1)) (i_SV := (SV_fx i_SV e_vi (show Gx 29 = vi from (fx_29)) (by omega) hVx))   (p_0 := by omega) (p_1 := by omega) (p_2 := by omega) (p_3 := by omega) (p_4 := by omega) (p_5 := by omega)) (fun o V_q hq => ?_)
  obtain ⟨G376, A377, r378, at2_379, fk2_380, op2_381, nd2_382, tk2_383, ec2_384, rfl, rfl, hW385, hF386, hQ387, b388, e389, e390, e391, e392, e393, e394, p395, p396, p397, p398, p399, p400, q401⟩ := hq
  have hF402 := Fr_tr hFx hF386 (Fr_sub (by decide)) (Fr_sub (by decide))
  have hP403 := Pf_tr hPx hQ387 (by omega)
  have hS404 := Fx_f hSx hF386 (by decide)
  have hV405 := Fx_f hVx hF386 (by decide)
  have bat2_379 : (0 : Int) ≤ at2_379 ∧ at2_379 ≤ 3002 := e389 ▸ hW385.1 10
  have bfk2_380 : (0 : Int) ≤ fk2_380 ∧ fk2_380 ≤ 6 := e390 ▸ hW385.1 16
  have bop2_381 : (-2147483648 : Int) ≤ op2_381 ∧ op2_381 ≤ 2147483647 := e391 ▸ hW385.1 15
  have bnd2_382 : (0 : Int) ≤ nd2_382 ∧ nd2_382 ≤ 6999 := e392 ▸ hW385.1 31
  have ztk2_383 := tz_b tk2_383
  have btk2_383 : (0 : Int) ≤ tk2_383 ∧ tk2_383 ≤ 5 := e393 ▸ hW385.1 11
  refine .inr ⟨_, rfl, ?_⟩
  rcases q401 with ⟨a406, a407, a408, a409, a410, a411⟩ | ⟨a412, a413, a414⟩ | ⟨a415, a416, a417, a418, a419, a420, a421, a422⟩
  · have _q : True := trivial
    refine jr_st (pc_q := 106) (i := 19) (m := 7000) (z := n) (y := r378) rfl (by decide) rfl (by decide) (by omega) (by omega) rfl ?_
    have hW424 : Wk G376 (uA A377 19 (n).toNat (r378)) := Wk_a hW385 (show (-2147483648 : Int) ≤ r378 by omega) (show r378 ≤ (2147483647 : Int) by omega)
    have hF425 := Fr_a (z := r378) (k := 19) (n := (n).toNat) hF402 (by decide)
    obtain ⟨A423, eA423⟩ : ∃ q, q = uA A377 19 (n).toNat (r378) := ⟨_, rfl⟩
    rw [← eA423]
    rw [← eA423] at hW424 hF425
    have q426 : A423 19 (n).toNat = r378 := by rw [eA423]; exact uA_eq
    have hP427 : Pf nd A A423 := eA423 ▸ Pf_a hP403 (z := n) (by omega) (by omega)
    have hS428 : Fx sr (sy) A A423 := eA423 ▸ Fx_n hS404 rfl
    have hV429 : Fx [14] (vi) A A423 := eA423 ▸ Fx_n hV405 rfl
    have ec430 : ecn A423 (G376 31) = ec2_384 := (ecn_e ((congrFun eA423 15).trans (uA_ne (by decide)))).trans e394
    have z431 := tz_f (tk2_383)
    exact c_readSeq_w_at_106p (X := X) (k := k) (hP := hP) (d := d) (Vs := Vs) (sb := sb) (pb := pb) (hvb := hvb) (c0 := c0) (c1 := c1) (G := G) (A := A) (T := T) (lv := lv) (ln := ln) (li := li) (at0 := at0) (fk := fk) (nd := nd) (sy := sy) (na := na) (vi := vi) (le := le) (op0 := op0) (tk0 := tk0) (ec := ec) (hd := hd) (hW := hW) (e_ln := e_ln) (e_li := e_li) (e_at0 := e_at0) (e_fk := e_fk) (e_nd := e_nd) (e_sy := e_sy) (e_na := e_na) (e_vi := e_vi) (e_le := e_le) (e_op0 := e_op0) (e_tk0 := e_tk0) (e_ec := e_ec) (i_LT := i_LT) (i_SV := i_SV) (i_PQ := i_PQ) (h_lv := h_lv) (p_0 := p_0) (p_1 := p_1) (p_2 := p_2) (p_3 := p_3) (p_4 := p_4) (p_5 := p_5) (p_6 := p_6) (p_7 := p_7) (p_8 := p_8) (p_9 := p_9) (p_10 := p_10) L G376 A423 (n) (at2_379) (tk2_383) (fk2_380) (nd2_382) (op2_381) (sy1) (na1) (ec2_384) gL_0 gL_1 gL_2 hW424 hF425 hP427 hS428 hV429 ((e389)) ((e393)) ((e390)) ((e392)) ((e391)) (((hF386.1 19 rfl).trans (ex_sy1))) (((hF386.1 28 rfl).trans (ex_na1))) (ec430) (((hF386.1 9 rfl).trans (fx_9))) (((hF386.1 29 rfl).trans (fx_29))) (by omega) (by omega) (by omega) (by omega) (by omega) (by omega) (by omega) (by omega) (by omega)
  · have _q : True := trivial
    exfalso
    omega
  · have _q : True := trivial
    exfalso
    omega
set_option maxRecDepth 20000 in
set_option maxHeartbeats 4000000 in
theorem c_readSeq_w_at_96 {X : jX} {k : Nat} (hP : RPw X k) {d : Nat} {Vs : Nat → Prop} {sb pb : Int} (hvb : VB Vs sb) {c0 c1 : jC} {G : Nat → Int} {A : Nat → Nat → Int} {T : jH} {lv : Int} {ln li at0 fk nd sy na vi le op0 tk0 ec : Int} (hd : 8 * k + 82 ≤ d + 1) (hW : Wk G A) (e_ln : G 9 = ln) (e_li : G 3 = li) (e_at0 : G 10 = at0) (e_fk : G 16 = fk) (e_nd : G 31 = nd) (e_sy : G 19 = sy) (e_na : G 28 = na) (e_vi : G 29 = vi) (e_le : A 4 (ln).toNat = le) (e_op0 : G 15 = op0) (e_tk0 : G 11 = tk0) (e_ec : ecn A (G 31) = ec) (i_LT : LT G A) (i_SV : SV Vs sb G A) (i_PQ : PQ Vs sb pb G A) (h_lv : (-2147483648 : Int) ≤ lv ∧ lv ≤ 2147483647) (p_0 : 0 ≤ lv ∧ lv ≤ 15) (p_1 : 18 - lv ≤ ((k + 1 : Nat) : Int)) (p_2 : fk = 0) (p_3 : ln < li) (p_4 : at0 ≤ le) (p_5 : op0 = 0) (p_6 : nd ≤ 2 * at0 - tz tk0 + 30) (p_7 : sy ≤ na + 2) (p_8 : vi ≤ sy) (p_9 : sb = sy) (p_10 : 1 ≤ tk0) : ∀ (L : jL) (Gx : Nat → Int) (Ax : Nat → Nat → Int) (n at1 tk1 fk1 nd1 op1 sy1 na1 sa1 ka1 ec1 : Int), jGet L 0 = some (.ref 66) → jGet L 1 = some (.int (i32 (lv))) → jGet L 2 = some (.int (i32 n)) → Wk Gx Ax → Fr [9, 10, 11, 12, 13, 14, 15, 16, 17, 18, 19, 28, 29, 31] [6, 7, 8, 9, 10, 11, 12, 14, 15, 16, 17, 18, 19, 20, 21, 22, 23, 24, 28] G A Gx Ax → Pf nd A Ax → Fx sr (sy) A Ax → Fx [14] (vi) A Ax → Gx 10 = at1 → Gx 11 = tk1 → Gx 16 = fk1 → Gx 31 = nd1 → Gx 15 = op1 → Gx 19 = sy1 → Gx 28 = na1 → Ax 17 (n).toNat = sa1 → Ax 7 (sa1).toNat = ka1 → ecn Ax (Gx 31) = ec1 → Gx 9 = ln → Gx 29 = vi → ((-2147483648 : Int) ≤ n ∧ n ≤ 2147483647) → (fk1 = 0) → (at0 ≤ at1) → (at1 ≤ le) → (n = nd) → (n ≤ 6998 ∧ n < nd1) → (sy1 = sy + 1) → (sa1 = sy) → (sy1 ≤ na1 + 2) → (op1 = 0) → (nd1 - nd ≤ (2 * at1 - tz tk1) - (2 * at0 - tz tk0)) → (ka1 = 9) → (nd1 = n + 1) → (ND Ax (n) (27) (sa1) (0) (0) (0) (0) (0)) → (nd1 - nd + 5 * (ec1 - ec) ≤ (2 * at1 - tz tk1) - (2 * at0 - tz tk0)) → (NdM Ax (nd) (nd1) (sy)) → wj X d jm297 (96, L, [], rV c0 c1 Gx Ax T) (fun o V_q => ∃ (G_q : Nat → Int) (A_q : Nat → Nat → Int) (r : Int) (ln2 : Int) (at2 : Int) (fk2 : Int) (nd2 : Int) (sy2 : Int) (na2 : Int) (vi2 : Int) (lf2 : Int) (ec2 : Int), V_q = rV c0 c1 G_q A_q T ∧ o = .inl (some (.int (i32 r))) ∧ Wk G_q A_q ∧ Fr [9, 10, 11, 12, 13, 14, 15, 16, 17, 18, 19, 28, 29, 31] [6, 7, 8, 9, 10, 11, 12, 14, 15, 16, 17, 18, 19, 20, 21, 22, 23, 24, 28] G A G_q A_q ∧ Pf nd A A_q ∧ Fx sr (sy) A A_q ∧ Fx [14] (vi) A A_q ∧ ((-2147483648 : Int) ≤ r ∧ r ≤ 2147483647) ∧ G_q 9 = ln2 ∧ G_q 10 = at2 ∧ G_q 16 = fk2 ∧ G_q 31 = nd2 ∧ G_q 19 = sy2 ∧ G_q 28 = na2 ∧ G_q 29 = vi2 ∧ A_q 3 (ln2).toNat = lf2 ∧ ecn A_q (G_q 31) = ec2 ∧ (at0 ≤ at2) ∧ (nd ≤ nd2) ∧ (sy ≤ sy2) ∧ (sy2 ≤ na2 + 2) ∧ (vi ≤ vi2) ∧ (vi2 ≤ vi + 1) ∧ (0 ≤ r) ∧ (r ≤ 6999) ∧ (ln ≤ ln2) ∧ (ln2 ≤ li) ∧ (((1 ≤ fk2) ∧ (nd2 - nd ≤ 2 * at2 - (2 * at0 - tz tk0) + 14)) ∨ ((fk2 = 0) ∧ (vi2 = vi) ∧ (ln < ln2) ∧ (nd2 - nd ≤ 2 * at2 - (2 * at0 - tz tk0)) ∧ (at2 < lf2 ∨ li ≤ ln2) ∧ (nd ≤ r) ∧ (r < nd2) ∧ (wSt A_q (sy2) pb (wP A_q (sy2) pb (k)) (Vs) (r) (nd) (nd2) (sy) (sy2)) ∧ (NX A_q (r)) ∧ (nd2 - nd + 5 * (ec2 - ec) ≤ 2 * at2 - (2 * at0 - tz tk0)) ∧ (NdM A_q (nd) (nd2) (sy))))) := by
  have hF0 : Fr [9, 10, 11, 12, 13, 14, 15, 16, 17, 18, 19, 28, 29, 31] [6, 7, 8, 9, 10, 11, 12, 14, 15, 16, 17, 18, 19, 20, 21, 22, 23, 24, 28] G A G A := Fr_rf
  have hP0 : Pf nd A A := Pf_rf
  have hS0 : Fx sr (sy) A A := Fx_rf
  have hV0 : Fx [14] (vi) A A := Fx_rf
  have b_ln : (0 : Int) ≤ ln ∧ ln ≤ 3000 := e_ln ▸ hW.1 9
  have b_li : (0 : Int) ≤ li ∧ li ≤ 3000 := e_li ▸ hW.1 3
  have b_at0 : (0 : Int) ≤ at0 ∧ at0 ≤ 3002 := e_at0 ▸ hW.1 10
  have b_fk : (0 : Int) ≤ fk ∧ fk ≤ 6 := e_fk ▸ hW.1 16
  have b_nd : (0 : Int) ≤ nd ∧ nd ≤ 6999 := e_nd ▸ hW.1 31
  have b_sy : (0 : Int) ≤ sy ∧ sy ≤ 202 := e_sy ▸ hW.1 19
  have b_na : (0 : Int) ≤ na ∧ na ≤ 200 := e_na ▸ hW.1 28
  have b_vi : (0 : Int) ≤ vi ∧ vi ≤ 202 := e_vi ▸ hW.1 29
  have b_le : (0 : Int) ≤ le ∧ le ≤ 3000 := e_le ▸ hW.2 4 _
  have b_op0 : (-2147483648 : Int) ≤ op0 ∧ op0 ≤ 2147483647 := e_op0 ▸ hW.1 15
  have z_tk0 := tz_f tk0
  have b_tk0 : (0 : Int) ≤ tk0 ∧ tk0 ≤ 5 := e_tk0 ▸ hW.1 11
  intro L Gx Ax n at1 tk1 fk1 nd1 op1 sy1 na1 sa1 ka1 ec1 gL_0 gL_1 gL_2 hWx hFx hPx hSx hVx ex_at1 ex_tk1 ex_fk1 ex_nd1 ex_op1 ex_sy1 ex_na1 ex_sa1 ex_ka1 ex_ec1 fx_9 fx_29 rx_n iv_0 iv_1 iv_2 iv_3 iv_4 iv_5 iv_6 iv_7 iv_8 iv_9 iv_10 iv_11 iv_12 iv_13 iv_14
  have b_at1 : (0 : Int) ≤ at1 ∧ at1 ≤ 3002 := ex_at1 ▸ hWx.1 10
  have z_tk1 := tz_f tk1
  have b_tk1 : (0 : Int) ≤ tk1 ∧ tk1 ≤ 5 := ex_tk1 ▸ hWx.1 11
  have b_fk1 : (0 : Int) ≤ fk1 ∧ fk1 ≤ 6 := ex_fk1 ▸ hWx.1 16
  have b_nd1 : (0 : Int) ≤ nd1 ∧ nd1 ≤ 6999 := ex_nd1 ▸ hWx.1 31
  have b_op1 : (-2147483648 : Int) ≤ op1 ∧ op1 ≤ 2147483647 := ex_op1 ▸ hWx.1 15
  have b_sy1 : (0 : Int) ≤ sy1 ∧ sy1 ≤ 202 := ex_sy1 ▸ hWx.1 19
  have b_na1 : (0 : Int) ≤ na1 ∧ na1 ≤ 200 := ex_na1 ▸ hWx.1 28
  refine jx_ld (pc_q := 97) (l_q := L) (st_q := [.ref 66]) rfl (jl_aloadn gL_0) ?_
  refine jr_get (pc_q := 100) (i := 36) (v := .ref 86) rfl rfl (by decide) rfl rfl ?_
  refine jx_ld (pc_q := 101) (l_q := L) (st_q := [.int (i32 (n)), .ref 86]) rfl (jl_iloadn gL_2) ?_
  refine jx_ld (pc_q := 102) (l_q := L) (st_q := [.ref 66, .int (i32 (n)), .ref 86]) rfl (jl_aloadn gL_0) ?_
  refine jx_vr (pc_q := 105) (as := []) (st := [.int (i32 (n)), .ref 86]) rfl rfl rfl rfl ⟨rfl, rfl, Nat.le_of_ble_eq_true rfl⟩ rfl rfl (REw_all X 9 (dd := d) (hd := by omega) (hW := hWx)  (ln := ln) (e_ln := show Gx 9 = ln from (fx_9)) (le := le) (e_le := show Ax 4 (ln).toNat = le from (congrFun (hFx.2 4 rfl) _).trans (e_le)) (at0 := at1) (e_at0 := show Gx 10 = at1 from (ex_at1)) (fk := fk1) (e_fk := show Gx 16 = fk1 from (ex_fk1)) (op0 := op1) (e_op0 := show Gx 15 = op1 from (ex_op1)) (nd := nd1) (e_nd := show Gx 31 = nd1 from (ex_nd1)) (tk0 := tk1) (e_tk0 := show Gx 11 = tk1 from (ex_tk1)) (ec := ec1) (e_ec := show ecn Ax (Gx 31) = ec1 from ex_ec1) (sy := sy1) (e_sy := show Gx 19 = sy1 from (ex_sy1)) (i_SV := (SV_fx i_SV e_vi (show Gx 29 = vi from (fx_29)) (by omega) hVx))   (p_0 := by omega) (p_1 := by omega) (p_2 := by omega) (p_3 := by omega) (p_4 := by omega) (p_5 := by omega)) (fun o V_q hq => ?_)
  obtain ⟨G432, A433, r434, at2_435, fk2_436, op2_437, nd2_438, tk2_439, ec2_440, rfl, rfl, hW441, hF442, hQ443, b444, e445, e446, e447, e448, e449, e450, p451, p452, p453, p454, p455, p456, q457⟩ := hq
  have hF458 := Fr_tr hFx hF442 (Fr_sub (by decide)) (Fr_sub (by decide))
  have k459 : A433 17 (n).toNat = sa1 := (hQ443 17 _ rfl (by omega)).trans (show Ax 17 (n).toNat = sa1 from (ex_sa1))
  have hP460 := Pf_tr hPx hQ443 (by omega)
  have hS461 := Fx_f hSx hF442 (by decide)
  have hV462 := Fx_f hVx hF442 (by decide)
  have sf463 : ND A433 (n) (27) (sa1) (0) (0) (0) (0) (0) := ND_ag (by omega) (Ag_pf hQ443 (by omega)) iv_12
  have sf464 : NdM A433 (nd) (nd1) (sy) := NdM_pf hQ443 (by omega) (by omega) iv_14
  have bat2_435 : (0 : Int) ≤ at2_435 ∧ at2_435 ≤ 3002 := e445 ▸ hW441.1 10
  have bfk2_436 : (0 : Int) ≤ fk2_436 ∧ fk2_436 ≤ 6 := e446 ▸ hW441.1 16
  have bop2_437 : (-2147483648 : Int) ≤ op2_437 ∧ op2_437 ≤ 2147483647 := e447 ▸ hW441.1 15
  have bnd2_438 : (0 : Int) ≤ nd2_438 ∧ nd2_438 ≤ 6999 := e448 ▸ hW441.1 31
  have ztk2_439 := tz_b tk2_439
  have btk2_439 : (0 : Int) ≤ tk2_439 ∧ tk2_439 ≤ 5 := e449 ▸ hW441.1 11
  refine .inr ⟨_, rfl, ?_⟩
  rcases q457 with ⟨a465, a466, a467, a468, a469, a470⟩ | ⟨a471, a472, a473⟩ | ⟨a474, a475, a476, a477, a478, a479, a480, a481⟩
  · have _q : True := trivial
    exfalso
    omega
  · have _q : True := trivial
    refine jr_st (pc_q := 106) (i := 19) (m := 7000) (z := n) (y := r434) rfl (by decide) rfl (by decide) (by omega) (by omega) rfl ?_
    have hW483 : Wk G432 (uA A433 19 (n).toNat (r434)) := Wk_a hW441 (show (-2147483648 : Int) ≤ r434 by omega) (show r434 ≤ (2147483647 : Int) by omega)
    have hF484 := Fr_a (z := r434) (k := 19) (n := (n).toNat) hF458 (by decide)
    obtain ⟨A482, eA482⟩ : ∃ q, q = uA A433 19 (n).toNat (r434) := ⟨_, rfl⟩
    rw [← eA482]
    rw [← eA482] at hW483 hF484
    have q485 : A482 19 (n).toNat = r434 := by rw [eA482]; exact uA_eq
    have hP486 : Pf nd A A482 := eA482 ▸ Pf_a hP460 (z := n) (by omega) (by omega)
    have hS487 : Fx sr (sy) A A482 := eA482 ▸ Fx_n hS461 rfl
    have hV488 : Fx [14] (vi) A A482 := eA482 ▸ Fx_n hV462 rfl
    have sf489 : ND A482 (n) (27) (sa1) (0) (r434) (0) (0) (0) := ND_c eA482 sf463
    have sf490 : NdM A482 (nd) (nd1) (sy) := NdM_st eA482 (by decide) sf464
    have ec491 : ecn A482 (G432 31) = ec2_440 := (ecn_e ((congrFun eA482 15).trans (uA_ne (by decide)))).trans e450
    have z492 := tz_f (tk2_439)
    exact c_readSeq_w_at_106p (X := X) (k := k) (hP := hP) (d := d) (Vs := Vs) (sb := sb) (pb := pb) (hvb := hvb) (c0 := c0) (c1 := c1) (G := G) (A := A) (T := T) (lv := lv) (ln := ln) (li := li) (at0 := at0) (fk := fk) (nd := nd) (sy := sy) (na := na) (vi := vi) (le := le) (op0 := op0) (tk0 := tk0) (ec := ec) (hd := hd) (hW := hW) (e_ln := e_ln) (e_li := e_li) (e_at0 := e_at0) (e_fk := e_fk) (e_nd := e_nd) (e_sy := e_sy) (e_na := e_na) (e_vi := e_vi) (e_le := e_le) (e_op0 := e_op0) (e_tk0 := e_tk0) (e_ec := e_ec) (i_LT := i_LT) (i_SV := i_SV) (i_PQ := i_PQ) (h_lv := h_lv) (p_0 := p_0) (p_1 := p_1) (p_2 := p_2) (p_3 := p_3) (p_4 := p_4) (p_5 := p_5) (p_6 := p_6) (p_7 := p_7) (p_8 := p_8) (p_9 := p_9) (p_10 := p_10) L G432 A482 (n) (at2_435) (tk2_439) (fk2_436) (nd2_438) (op2_437) (sy1) (na1) (ec2_440) gL_0 gL_1 gL_2 hW483 hF484 hP486 hS487 hV488 ((e445)) ((e449)) ((e446)) ((e448)) ((e447)) (((hF442.1 19 rfl).trans (ex_sy1))) (((hF442.1 28 rfl).trans (ex_na1))) (ec491) (((hF442.1 9 rfl).trans (fx_9))) (((hF442.1 29 rfl).trans (fx_29))) (by omega) (by omega) (by omega) (by omega) (by omega) (by omega) (by omega) (by omega) (by omega)
  · have _q : True := trivial
    refine jr_st (pc_q := 106) (i := 19) (m := 7000) (z := n) (y := r434) rfl (by decide) rfl (by decide) (by omega) (by omega) rfl ?_
    have hW494 : Wk G432 (uA A433 19 (n).toNat (r434)) := Wk_a hW441 (show (-2147483648 : Int) ≤ r434 by omega) (show r434 ≤ (2147483647 : Int) by omega)
    have hF495 := Fr_a (z := r434) (k := 19) (n := (n).toNat) hF458 (by decide)
    obtain ⟨A493, eA493⟩ : ∃ q, q = uA A433 19 (n).toNat (r434) := ⟨_, rfl⟩
    rw [← eA493]
    rw [← eA493] at hW494 hF495
    have q496 : A493 19 (n).toNat = r434 := by rw [eA493]; exact uA_eq
    have hP497 : Pf nd A A493 := eA493 ▸ Pf_a hP460 (z := n) (by omega) (by omega)
    have hS498 : Fx sr (sy) A A493 := eA493 ▸ Fx_n hS461 rfl
    have hV499 : Fx [14] (vi) A A493 := eA493 ▸ Fx_n hV462 rfl
    have sf500 : ND A493 (n) (27) (sa1) (0) (r434) (0) (0) (0) := ND_c eA493 sf463
    have sf501 : NdM A493 (nd) (nd1) (sy) := NdM_st eA493 (by decide) sf464
    have sf502 : wE A493 Vs sb (2 * 9 + 2) (r434) (nd1) (nd2_438) := wE_ag (by omega) (Sg_ne eA493 rfl) (Ag_st eA493 (by omega) (by omega)) a477
    have sf503 : NdM A493 (nd1) (nd2_438) (sy1) := NdM_st eA493 (by decide) a479
    have ec504 : ecn A493 (G432 31) = ec2_440 := (ecn_e ((congrFun eA493 15).trans (uA_ne (by decide)))).trans e450
    have z505 := tz_f (tk2_439)
    exact c_readSeq_w_at_106 (X := X) (k := k) (hP := hP) (d := d) (Vs := Vs) (sb := sb) (pb := pb) (hvb := hvb) (c0 := c0) (c1 := c1) (G := G) (A := A) (T := T) (lv := lv) (ln := ln) (li := li) (at0 := at0) (fk := fk) (nd := nd) (sy := sy) (na := na) (vi := vi) (le := le) (op0 := op0) (tk0 := tk0) (ec := ec) (hd := hd) (hW := hW) (e_ln := e_ln) (e_li := e_li) (e_at0 := e_at0) (e_fk := e_fk) (e_nd := e_nd) (e_sy := e_sy) (e_na := e_na) (e_vi := e_vi) (e_le := e_le) (e_op0 := e_op0) (e_tk0 := e_tk0) (e_ec := e_ec) (i_LT := i_LT) (i_SV := i_SV) (i_PQ := i_PQ) (h_lv := h_lv) (p_0 := p_0) (p_1 := p_1) (p_2 := p_2) (p_3 := p_3) (p_4 := p_4) (p_5 := p_5) (p_6 := p_6) (p_7 := p_7) (p_8 := p_8) (p_9 := p_9) (p_10 := p_10) L G432 A493 (n) (at2_435) (tk2_439) (fk2_436) (nd2_438) (op2_437) (sy1) (na1) (sa1) (ka1) (r434) (ec2_440) gL_0 gL_1 gL_2 hW494 hF495 hP497 hS498 hV499 ((e445)) ((e449)) ((e446)) ((e448)) ((e447)) (((hF442.1 19 rfl).trans (ex_sy1))) (((hF442.1 28 rfl).trans (ex_na1))) ((congrFun ((congrFun eA493 17).trans (uA_ne (by decide))) _).trans (k459)) ((congrFun (((congrFun eA493 7).trans (uA_ne (by decide))).trans (hF442.2 7 rfl)) _).trans (ex_ka1)) ((q496)) (ec504) (((hF442.1 9 rfl).trans (fx_9))) (((hF442.1 29 rfl).trans (fx_29))) (by omega) (by omega) (by omega) (by omega) (by omega) (by omega) (by omega) (by omega) (by omega) (by omega) (by omega) (by omega) (sf500) ((wE_mono (by omega) (by omega) (by omega) sf502)) (by omega) ((NdM_w (NdM_app (sy := sy) sf501 sf503 (by omega) (by omega) (by omega)) (by omega) (by omega) (by omega)))
set_option maxRecDepth 20000 in
set_option maxHeartbeats 4000000 in
theorem c_readSeq_w_at_86p {X : jX} {k : Nat} (hP : RPw X k) {d : Nat} {Vs : Nat → Prop} {sb pb : Int} (hvb : VB Vs sb) {c0 c1 : jC} {G : Nat → Int} {A : Nat → Nat → Int} {T : jH} {lv : Int} {ln li at0 fk nd sy na vi le op0 tk0 ec : Int} (hd : 8 * k + 82 ≤ d + 1) (hW : Wk G A) (e_ln : G 9 = ln) (e_li : G 3 = li) (e_at0 : G 10 = at0) (e_fk : G 16 = fk) (e_nd : G 31 = nd) (e_sy : G 19 = sy) (e_na : G 28 = na) (e_vi : G 29 = vi) (e_le : A 4 (ln).toNat = le) (e_op0 : G 15 = op0) (e_tk0 : G 11 = tk0) (e_ec : ecn A (G 31) = ec) (i_LT : LT G A) (i_SV : SV Vs sb G A) (i_PQ : PQ Vs sb pb G A) (h_lv : (-2147483648 : Int) ≤ lv ∧ lv ≤ 2147483647) (p_0 : 0 ≤ lv ∧ lv ≤ 15) (p_1 : 18 - lv ≤ ((k + 1 : Nat) : Int)) (p_2 : fk = 0) (p_3 : ln < li) (p_4 : at0 ≤ le) (p_5 : op0 = 0) (p_6 : nd ≤ 2 * at0 - tz tk0 + 30) (p_7 : sy ≤ na + 2) (p_8 : vi ≤ sy) (p_9 : sb = sy) (p_10 : 1 ≤ tk0) : ∀ (L : jL) (Gx : Nat → Int) (Ax : Nat → Nat → Int) (n at1 tk1 fk1 nd1 op1 sy1 na1 ec1 : Int), jGet L 0 = some (.ref 66) → jGet L 1 = some (.int (i32 (lv))) → jGet L 2 = some (.int (i32 n)) → Wk Gx Ax → Fr [9, 10, 11, 12, 13, 14, 15, 16, 17, 18, 19, 28, 29, 31] [6, 7, 8, 9, 10, 11, 12, 14, 15, 16, 17, 18, 19, 20, 21, 22, 23, 24, 28] G A Gx Ax → Pf nd A Ax → Fx sr (sy) A Ax → Fx [14] (vi) A Ax → Gx 10 = at1 → Gx 11 = tk1 → Gx 16 = fk1 → Gx 31 = nd1 → Gx 15 = op1 → Gx 19 = sy1 → Gx 28 = na1 → ecn Ax (Gx 31) = ec1 → Gx 9 = ln → Gx 29 = vi → ((-2147483648 : Int) ≤ n ∧ n ≤ 2147483647) → (1 ≤ fk1) → (at0 ≤ at1) → (at1 ≤ le) → (nd ≤ n ∧ n ≤ 6998 ∧ n < nd1) → (sy ≤ sy1) → (sy1 ≤ na1 + 2) → (0 ≤ op1 ∧ op1 ≤ 9) → (nd1 - nd ≤ 2 * at1 - 2 * at0 + 8) → wj X d jm297 (86, L, [], rV c0 c1 Gx Ax T) (fun o V_q => ∃ (G_q : Nat → Int) (A_q : Nat → Nat → Int) (r : Int) (ln2 : Int) (at2 : Int) (fk2 : Int) (nd2 : Int) (sy2 : Int) (na2 : Int) (vi2 : Int) (lf2 : Int) (ec2 : Int), V_q = rV c0 c1 G_q A_q T ∧ o = .inl (some (.int (i32 r))) ∧ Wk G_q A_q ∧ Fr [9, 10, 11, 12, 13, 14, 15, 16, 17, 18, 19, 28, 29, 31] [6, 7, 8, 9, 10, 11, 12, 14, 15, 16, 17, 18, 19, 20, 21, 22, 23, 24, 28] G A G_q A_q ∧ Pf nd A A_q ∧ Fx sr (sy) A A_q ∧ Fx [14] (vi) A A_q ∧ ((-2147483648 : Int) ≤ r ∧ r ≤ 2147483647) ∧ G_q 9 = ln2 ∧ G_q 10 = at2 ∧ G_q 16 = fk2 ∧ G_q 31 = nd2 ∧ G_q 19 = sy2 ∧ G_q 28 = na2 ∧ G_q 29 = vi2 ∧ A_q 3 (ln2).toNat = lf2 ∧ ecn A_q (G_q 31) = ec2 ∧ (at0 ≤ at2) ∧ (nd ≤ nd2) ∧ (sy ≤ sy2) ∧ (sy2 ≤ na2 + 2) ∧ (vi ≤ vi2) ∧ (vi2 ≤ vi + 1) ∧ (0 ≤ r) ∧ (r ≤ 6999) ∧ (ln ≤ ln2) ∧ (ln2 ≤ li) ∧ (((1 ≤ fk2) ∧ (nd2 - nd ≤ 2 * at2 - (2 * at0 - tz tk0) + 14)) ∨ ((fk2 = 0) ∧ (vi2 = vi) ∧ (ln < ln2) ∧ (nd2 - nd ≤ 2 * at2 - (2 * at0 - tz tk0)) ∧ (at2 < lf2 ∨ li ≤ ln2) ∧ (nd ≤ r) ∧ (r < nd2) ∧ (wSt A_q (sy2) pb (wP A_q (sy2) pb (k)) (Vs) (r) (nd) (nd2) (sy) (sy2)) ∧ (NX A_q (r)) ∧ (nd2 - nd + 5 * (ec2 - ec) ≤ 2 * at2 - (2 * at0 - tz tk0)) ∧ (NdM A_q (nd) (nd2) (sy))))) := by
  have hF0 : Fr [9, 10, 11, 12, 13, 14, 15, 16, 17, 18, 19, 28, 29, 31] [6, 7, 8, 9, 10, 11, 12, 14, 15, 16, 17, 18, 19, 20, 21, 22, 23, 24, 28] G A G A := Fr_rf
  have hP0 : Pf nd A A := Pf_rf
  have hS0 : Fx sr (sy) A A := Fx_rf
  have hV0 : Fx [14] (vi) A A := Fx_rf
  have b_ln : (0 : Int) ≤ ln ∧ ln ≤ 3000 := e_ln ▸ hW.1 9
  have b_li : (0 : Int) ≤ li ∧ li ≤ 3000 := e_li ▸ hW.1 3
  have b_at0 : (0 : Int) ≤ at0 ∧ at0 ≤ 3002 := e_at0 ▸ hW.1 10
  have b_fk : (0 : Int) ≤ fk ∧ fk ≤ 6 := e_fk ▸ hW.1 16
  have b_nd : (0 : Int) ≤ nd ∧ nd ≤ 6999 := e_nd ▸ hW.1 31
  have b_sy : (0 : Int) ≤ sy ∧ sy ≤ 202 := e_sy ▸ hW.1 19
  have b_na : (0 : Int) ≤ na ∧ na ≤ 200 := e_na ▸ hW.1 28
  have b_vi : (0 : Int) ≤ vi ∧ vi ≤ 202 := e_vi ▸ hW.1 29
  have b_le : (0 : Int) ≤ le ∧ le ≤ 3000 := e_le ▸ hW.2 4 _
  have b_op0 : (-2147483648 : Int) ≤ op0 ∧ op0 ≤ 2147483647 := e_op0 ▸ hW.1 15
  have z_tk0 := tz_f tk0
  have b_tk0 : (0 : Int) ≤ tk0 ∧ tk0 ≤ 5 := e_tk0 ▸ hW.1 11
  intro L Gx Ax n at1 tk1 fk1 nd1 op1 sy1 na1 ec1 gL_0 gL_1 gL_2 hWx hFx hPx hSx hVx ex_at1 ex_tk1 ex_fk1 ex_nd1 ex_op1 ex_sy1 ex_na1 ex_ec1 fx_9 fx_29 rx_n iv_0 iv_1 iv_2 iv_3 iv_4 iv_5 iv_6 iv_7
  have b_at1 : (0 : Int) ≤ at1 ∧ at1 ≤ 3002 := ex_at1 ▸ hWx.1 10
  have z_tk1 := tz_f tk1
  have b_tk1 : (0 : Int) ≤ tk1 ∧ tk1 ≤ 5 := ex_tk1 ▸ hWx.1 11
  have b_fk1 : (0 : Int) ≤ fk1 ∧ fk1 ≤ 6 := ex_fk1 ▸ hWx.1 16
  have b_nd1 : (0 : Int) ≤ nd1 ∧ nd1 ≤ 6999 := ex_nd1 ▸ hWx.1 31
  have b_op1 : (-2147483648 : Int) ≤ op1 ∧ op1 ≤ 2147483647 := ex_op1 ▸ hWx.1 15
  have b_sy1 : (0 : Int) ≤ sy1 ∧ sy1 ≤ 202 := ex_sy1 ▸ hWx.1 19
  have b_na1 : (0 : Int) ≤ na1 ∧ na1 ≤ 200 := ex_na1 ▸ hWx.1 28
  refine jx_ld (pc_q := 87) (l_q := L) (st_q := [.ref 66]) rfl (jl_aloadn gL_0) ?_
  refine jx_ld (pc_q := 88) (l_q := L) (st_q := [.ref 66, .ref 66]) rfl (jl_aloadn gL_0) ?_
  refine jx_ar (pc_q := 90) (st_q := [.int (i32 (61)), .ref 66, .ref 66]) rfl rfl rfl rfl ?_
  have b506 : (-2147483648 : Int) ≤ Gx 13 ∧ Gx 13 ≤ 2147483647 := hWx.1 13
  refine jx_vr (pc_q := 93) (as := [.int (i32 (61))]) (st := [.ref 66]) rfl rfl rfl rfl ⟨rfl, rfl, Nat.le_of_ble_eq_true rfl⟩ rfl rfl (c_is (dd := d) (hd := by omega) (hW := hWx) (k := 61) (tk := tk1) (e_tk := show Gx 11 = tk1 from (ex_tk1)) (tn := Gx 13) (e_tn := show Gx 13 = Gx 13 from rfl)  (h_k := ⟨(by decide), (by decide)⟩)  ) (fun o V_q hq => ?_)
  obtain ⟨r507, rfl, rfl, b508, q509⟩ := hq
  refine .inr ⟨_, rfl, ?_⟩
  rcases q509 with ⟨rfl, a510, a511, a512⟩ | rfl
  · have _q : True := trivial
    refine jx_vr (pc_q := 96) (as := [.int (i32 (1))]) (st := []) rfl rfl rfl rfl ⟨rfl, rfl, Nat.le_of_ble_eq_true rfl⟩ rfl rfl (c_need (dd := d) (hd := by omega) (hW := hWx) (g := 1) (ln := ln) (e_ln := show Gx 9 = ln from (fx_9)) (le := le) (e_le := show Ax 4 (ln).toNat = le from (congrFun (hFx.2 4 rfl) _).trans (e_le)) (at0 := at1) (e_at0 := show Gx 10 = at1 from (ex_at1)) (fk := fk1) (e_fk := show Gx 16 = fk1 from (ex_fk1)) (tk0 := tk1) (e_tk0 := show Gx 11 = tk1 from (ex_tk1))  (h_g := ⟨(by decide), (by decide)⟩)  (p_0 := by omega)) (fun o V_q hq => ?_)
    obtain ⟨G513, A514, at2_515, tk2_516, fk2_517, rfl, rfl, hW518, hF519, e520, e521, e522, p523, p524, q525⟩ := hq
    have hF526 := Fr_tr hFx hF519 (Fr_sub (by decide)) (Fr_sub (by decide))
    have hP527 := Pf_f hPx hF519 (by decide)
    have hS528 := Fx_f hSx hF519 (by decide)
    have hV529 := Fx_f hVx hF519 (by decide)
    have ec530 : ecn A514 (G513 31) = ec1 := (ecn_f (hF519.2 15 rfl) (hF519.1 31 rfl)).trans ex_ec1
    have bat2_515 : (0 : Int) ≤ at2_515 ∧ at2_515 ≤ 3002 := e520 ▸ hW518.1 10
    have ztk2_516 := tz_b tk2_516
    have btk2_516 : (0 : Int) ≤ tk2_516 ∧ tk2_516 ≤ 5 := e521 ▸ hW518.1 11
    have bfk2_517 : (0 : Int) ≤ fk2_517 ∧ fk2_517 ≤ 6 := e522 ▸ hW518.1 16
    refine .inl ⟨rfl, ?_⟩
    rcases q525 with ⟨a531, a532, a533, a534⟩ | ⟨a535, a536, a537, a538⟩
    · have _q : True := trivial
      have z539 := tz_f (tk2_516)
      exact c_readSeq_w_at_96p (X := X) (k := k) (hP := hP) (d := d) (Vs := Vs) (sb := sb) (pb := pb) (hvb := hvb) (c0 := c0) (c1 := c1) (G := G) (A := A) (T := T) (lv := lv) (ln := ln) (li := li) (at0 := at0) (fk := fk) (nd := nd) (sy := sy) (na := na) (vi := vi) (le := le) (op0 := op0) (tk0 := tk0) (ec := ec) (hd := hd) (hW := hW) (e_ln := e_ln) (e_li := e_li) (e_at0 := e_at0) (e_fk := e_fk) (e_nd := e_nd) (e_sy := e_sy) (e_na := e_na) (e_vi := e_vi) (e_le := e_le) (e_op0 := e_op0) (e_tk0 := e_tk0) (e_ec := e_ec) (i_LT := i_LT) (i_SV := i_SV) (i_PQ := i_PQ) (h_lv := h_lv) (p_0 := p_0) (p_1 := p_1) (p_2 := p_2) (p_3 := p_3) (p_4 := p_4) (p_5 := p_5) (p_6 := p_6) (p_7 := p_7) (p_8 := p_8) (p_9 := p_9) (p_10 := p_10) L G513 A514 (n) (at2_515) (tk2_516) (fk2_517) (nd1) (op1) (sy1) (na1) (ec1) gL_0 gL_1 gL_2 hW518 hF526 hP527 hS528 hV529 ((e520)) ((e521)) ((e522)) (((hF519.1 31 rfl).trans (ex_nd1))) (((hF519.1 15 rfl).trans (ex_op1))) (((hF519.1 19 rfl).trans (ex_sy1))) (((hF519.1 28 rfl).trans (ex_na1))) (ec530) (((hF519.1 9 rfl).trans (fx_9))) (((hF519.1 29 rfl).trans (fx_29))) (by omega) (by omega) (by omega) (by omega) (by omega) (by omega) (by omega) (by omega) (by omega)
    · have _q : True := trivial
      exfalso
      omega
  · have _q : True := trivial
    refine jx_vr (pc_q := 96) (as := [.int (i32 (0))]) (st := []) rfl rfl rfl rfl ⟨rfl, rfl, Nat.le_of_ble_eq_true rfl⟩ rfl rfl (c_need (dd := d) (hd := by omega) (hW := hWx) (g := 0) (ln := ln) (e_ln := show Gx 9 = ln from (fx_9)) (le := le) (e_le := show Ax 4 (ln).toNat = le from (congrFun (hFx.2 4 rfl) _).trans (e_le)) (at0 := at1) (e_at0 := show Gx 10 = at1 from (ex_at1)) (fk := fk1) (e_fk := show Gx 16 = fk1 from (ex_fk1)) (tk0 := tk1) (e_tk0 := show Gx 11 = tk1 from (ex_tk1))  (h_g := ⟨(by decide), (by decide)⟩)  (p_0 := by omega)) (fun o V_q hq => ?_)
    obtain ⟨G540, A541, at2_542, tk2_543, fk2_544, rfl, rfl, hW545, hF546, e547, e548, e549, p550, p551, q552⟩ := hq
    have hF553 := Fr_tr hFx hF546 (Fr_sub (by decide)) (Fr_sub (by decide))
    have hP554 := Pf_f hPx hF546 (by decide)
    have hS555 := Fx_f hSx hF546 (by decide)
    have hV556 := Fx_f hVx hF546 (by decide)
    have ec557 : ecn A541 (G540 31) = ec1 := (ecn_f (hF546.2 15 rfl) (hF546.1 31 rfl)).trans ex_ec1
    have bat2_542 : (0 : Int) ≤ at2_542 ∧ at2_542 ≤ 3002 := e547 ▸ hW545.1 10
    have ztk2_543 := tz_b tk2_543
    have btk2_543 : (0 : Int) ≤ tk2_543 ∧ tk2_543 ≤ 5 := e548 ▸ hW545.1 11
    have bfk2_544 : (0 : Int) ≤ fk2_544 ∧ fk2_544 ≤ 6 := e549 ▸ hW545.1 16
    refine .inl ⟨rfl, ?_⟩
    rcases q552 with ⟨a558, a559, a560, a561⟩ | ⟨a562, a563, a564, a565⟩
    · have _q : True := trivial
      have z566 := tz_f (tk2_543)
      exact c_readSeq_w_at_96p (X := X) (k := k) (hP := hP) (d := d) (Vs := Vs) (sb := sb) (pb := pb) (hvb := hvb) (c0 := c0) (c1 := c1) (G := G) (A := A) (T := T) (lv := lv) (ln := ln) (li := li) (at0 := at0) (fk := fk) (nd := nd) (sy := sy) (na := na) (vi := vi) (le := le) (op0 := op0) (tk0 := tk0) (ec := ec) (hd := hd) (hW := hW) (e_ln := e_ln) (e_li := e_li) (e_at0 := e_at0) (e_fk := e_fk) (e_nd := e_nd) (e_sy := e_sy) (e_na := e_na) (e_vi := e_vi) (e_le := e_le) (e_op0 := e_op0) (e_tk0 := e_tk0) (e_ec := e_ec) (i_LT := i_LT) (i_SV := i_SV) (i_PQ := i_PQ) (h_lv := h_lv) (p_0 := p_0) (p_1 := p_1) (p_2 := p_2) (p_3 := p_3) (p_4 := p_4) (p_5 := p_5) (p_6 := p_6) (p_7 := p_7) (p_8 := p_8) (p_9 := p_9) (p_10 := p_10) L G540 A541 (n) (at2_542) (tk2_543) (fk2_544) (nd1) (op1) (sy1) (na1) (ec1) gL_0 gL_1 gL_2 hW545 hF553 hP554 hS555 hV556 ((e547)) ((e548)) ((e549)) (((hF546.1 31 rfl).trans (ex_nd1))) (((hF546.1 15 rfl).trans (ex_op1))) (((hF546.1 19 rfl).trans (ex_sy1))) (((hF546.1 28 rfl).trans (ex_na1))) (ec557) (((hF546.1 9 rfl).trans (fx_9))) (((hF546.1 29 rfl).trans (fx_29))) (by omega) (by omega) (by omega) (by omega) (by omega) (by omega) (by omega) (by omega) (by omega)
    · have _q : True := trivial
      exfalso
      omega
set_option maxRecDepth 20000 in
set_option maxHeartbeats 4000000 in
theorem c_readSeq_w_at_86 {X : jX} {k : Nat} (hP : RPw X k) {d : Nat} {Vs : Nat → Prop} {sb pb : Int} (hvb : VB Vs sb) {c0 c1 : jC} {G : Nat → Int} {A : Nat → Nat → Int} {T : jH} {lv : Int} {ln li at0 fk nd sy na vi le op0 tk0 ec : Int} (hd : 8 * k + 82 ≤ d + 1) (hW : Wk G A) (e_ln : G 9 = ln) (e_li : G 3 = li) (e_at0 : G 10 = at0) (e_fk : G 16 = fk) (e_nd : G 31 = nd) (e_sy : G 19 = sy) (e_na : G 28 = na) (e_vi : G 29 = vi) (e_le : A 4 (ln).toNat = le) (e_op0 : G 15 = op0) (e_tk0 : G 11 = tk0) (e_ec : ecn A (G 31) = ec) (i_LT : LT G A) (i_SV : SV Vs sb G A) (i_PQ : PQ Vs sb pb G A) (h_lv : (-2147483648 : Int) ≤ lv ∧ lv ≤ 2147483647) (p_0 : 0 ≤ lv ∧ lv ≤ 15) (p_1 : 18 - lv ≤ ((k + 1 : Nat) : Int)) (p_2 : fk = 0) (p_3 : ln < li) (p_4 : at0 ≤ le) (p_5 : op0 = 0) (p_6 : nd ≤ 2 * at0 - tz tk0 + 30) (p_7 : sy ≤ na + 2) (p_8 : vi ≤ sy) (p_9 : sb = sy) (p_10 : 1 ≤ tk0) : ∀ (L : jL) (Gx : Nat → Int) (Ax : Nat → Nat → Int) (n at1 tk1 fk1 nd1 op1 sy1 na1 sa1 ka1 ec1 : Int), jGet L 0 = some (.ref 66) → jGet L 1 = some (.int (i32 (lv))) → jGet L 2 = some (.int (i32 n)) → Wk Gx Ax → Fr [9, 10, 11, 12, 13, 14, 15, 16, 17, 18, 19, 28, 29, 31] [6, 7, 8, 9, 10, 11, 12, 14, 15, 16, 17, 18, 19, 20, 21, 22, 23, 24, 28] G A Gx Ax → Pf nd A Ax → Fx sr (sy) A Ax → Fx [14] (vi) A Ax → Gx 10 = at1 → Gx 11 = tk1 → Gx 16 = fk1 → Gx 31 = nd1 → Gx 15 = op1 → Gx 19 = sy1 → Gx 28 = na1 → Ax 17 (n).toNat = sa1 → Ax 7 (sa1).toNat = ka1 → ecn Ax (Gx 31) = ec1 → Gx 9 = ln → Gx 29 = vi → ((-2147483648 : Int) ≤ n ∧ n ≤ 2147483647) → (fk1 = 0) → (at0 ≤ at1) → (at1 ≤ le) → (n = nd) → (n ≤ 6998 ∧ n < nd1) → (sy1 = sy + 1) → (sa1 = sy) → (sy1 ≤ na1 + 2) → (op1 = 0) → (nd1 - nd ≤ (2 * at1 - tz tk1) - (2 * at0 - tz tk0)) → (ka1 = 9) → (nd1 = n + 1) → (ND Ax (n) (27) (sa1) (0) (0) (0) (0) (0)) → (nd1 - nd + 5 * (ec1 - ec) ≤ (2 * at1 - tz tk1) - (2 * at0 - tz tk0)) → (NdM Ax (nd) (nd1) (sy)) → wj X d jm297 (86, L, [], rV c0 c1 Gx Ax T) (fun o V_q => ∃ (G_q : Nat → Int) (A_q : Nat → Nat → Int) (r : Int) (ln2 : Int) (at2 : Int) (fk2 : Int) (nd2 : Int) (sy2 : Int) (na2 : Int) (vi2 : Int) (lf2 : Int) (ec2 : Int), V_q = rV c0 c1 G_q A_q T ∧ o = .inl (some (.int (i32 r))) ∧ Wk G_q A_q ∧ Fr [9, 10, 11, 12, 13, 14, 15, 16, 17, 18, 19, 28, 29, 31] [6, 7, 8, 9, 10, 11, 12, 14, 15, 16, 17, 18, 19, 20, 21, 22, 23, 24, 28] G A G_q A_q ∧ Pf nd A A_q ∧ Fx sr (sy) A A_q ∧ Fx [14] (vi) A A_q ∧ ((-2147483648 : Int) ≤ r ∧ r ≤ 2147483647) ∧ G_q 9 = ln2 ∧ G_q 10 = at2 ∧ G_q 16 = fk2 ∧ G_q 31 = nd2 ∧ G_q 19 = sy2 ∧ G_q 28 = na2 ∧ G_q 29 = vi2 ∧ A_q 3 (ln2).toNat = lf2 ∧ ecn A_q (G_q 31) = ec2 ∧ (at0 ≤ at2) ∧ (nd ≤ nd2) ∧ (sy ≤ sy2) ∧ (sy2 ≤ na2 + 2) ∧ (vi ≤ vi2) ∧ (vi2 ≤ vi + 1) ∧ (0 ≤ r) ∧ (r ≤ 6999) ∧ (ln ≤ ln2) ∧ (ln2 ≤ li) ∧ (((1 ≤ fk2) ∧ (nd2 - nd ≤ 2 * at2 - (2 * at0 - tz tk0) + 14)) ∨ ((fk2 = 0) ∧ (vi2 = vi) ∧ (ln < ln2) ∧ (nd2 - nd ≤ 2 * at2 - (2 * at0 - tz tk0)) ∧ (at2 < lf2 ∨ li ≤ ln2) ∧ (nd ≤ r) ∧ (r < nd2) ∧ (wSt A_q (sy2) pb (wP A_q (sy2) pb (k)) (Vs) (r) (nd) (nd2) (sy) (sy2)) ∧ (NX A_q (r)) ∧ (nd2 - nd + 5 * (ec2 - ec) ≤ 2 * at2 - (2 * at0 - tz tk0)) ∧ (NdM A_q (nd) (nd2) (sy))))) := by
  have hF0 : Fr [9, 10, 11, 12, 13, 14, 15, 16, 17, 18, 19, 28, 29, 31] [6, 7, 8, 9, 10, 11, 12, 14, 15, 16, 17, 18, 19, 20, 21, 22, 23, 24, 28] G A G A := Fr_rf
  have hP0 : Pf nd A A := Pf_rf
  have hS0 : Fx sr (sy) A A := Fx_rf
  have hV0 : Fx [14] (vi) A A := Fx_rf
  have b_ln : (0 : Int) ≤ ln ∧ ln ≤ 3000 := e_ln ▸ hW.1 9
  have b_li : (0 : Int) ≤ li ∧ li ≤ 3000 := e_li ▸ hW.1 3
  have b_at0 : (0 : Int) ≤ at0 ∧ at0 ≤ 3002 := e_at0 ▸ hW.1 10
  have b_fk : (0 : Int) ≤ fk ∧ fk ≤ 6 := e_fk ▸ hW.1 16
  have b_nd : (0 : Int) ≤ nd ∧ nd ≤ 6999 := e_nd ▸ hW.1 31
  have b_sy : (0 : Int) ≤ sy ∧ sy ≤ 202 := e_sy ▸ hW.1 19
  have b_na : (0 : Int) ≤ na ∧ na ≤ 200 := e_na ▸ hW.1 28
  have b_vi : (0 : Int) ≤ vi ∧ vi ≤ 202 := e_vi ▸ hW.1 29
  have b_le : (0 : Int) ≤ le ∧ le ≤ 3000 := e_le ▸ hW.2 4 _
  have b_op0 : (-2147483648 : Int) ≤ op0 ∧ op0 ≤ 2147483647 := e_op0 ▸ hW.1 15
  have z_tk0 := tz_f tk0
  have b_tk0 : (0 : Int) ≤ tk0 ∧ tk0 ≤ 5 := e_tk0 ▸ hW.1 11
  intro L Gx Ax n at1 tk1 fk1 nd1 op1 sy1 na1 sa1 ka1 ec1 gL_0 gL_1 gL_2 hWx hFx hPx hSx hVx ex_at1 ex_tk1 ex_fk1 ex_nd1 ex_op1 ex_sy1 ex_na1 ex_sa1 ex_ka1 ex_ec1 fx_9 fx_29 rx_n iv_0 iv_1 iv_2 iv_3 iv_4 iv_5 iv_6 iv_7 iv_8 iv_9 iv_10 iv_11 iv_12 iv_13 iv_14
  have b_at1 : (0 : Int) ≤ at1 ∧ at1 ≤ 3002 := ex_at1 ▸ hWx.1 10
  have z_tk1 := tz_f tk1
  have b_tk1 : (0 : Int) ≤ tk1 ∧ tk1 ≤ 5 := ex_tk1 ▸ hWx.1 11
  have b_fk1 : (0 : Int) ≤ fk1 ∧ fk1 ≤ 6 := ex_fk1 ▸ hWx.1 16
  have b_nd1 : (0 : Int) ≤ nd1 ∧ nd1 ≤ 6999 := ex_nd1 ▸ hWx.1 31
  have b_op1 : (-2147483648 : Int) ≤ op1 ∧ op1 ≤ 2147483647 := ex_op1 ▸ hWx.1 15
  have b_sy1 : (0 : Int) ≤ sy1 ∧ sy1 ≤ 202 := ex_sy1 ▸ hWx.1 19
  have b_na1 : (0 : Int) ≤ na1 ∧ na1 ≤ 200 := ex_na1 ▸ hWx.1 28
  refine jx_ld (pc_q := 87) (l_q := L) (st_q := [.ref 66]) rfl (jl_aloadn gL_0) ?_
  refine jx_ld (pc_q := 88) (l_q := L) (st_q := [.ref 66, .ref 66]) rfl (jl_aloadn gL_0) ?_
  refine jx_ar (pc_q := 90) (st_q := [.int (i32 (61)), .ref 66, .ref 66]) rfl rfl rfl rfl ?_
  have b567 : (-2147483648 : Int) ≤ Gx 13 ∧ Gx 13 ≤ 2147483647 := hWx.1 13
  refine jx_vr (pc_q := 93) (as := [.int (i32 (61))]) (st := [.ref 66]) rfl rfl rfl rfl ⟨rfl, rfl, Nat.le_of_ble_eq_true rfl⟩ rfl rfl (c_is (dd := d) (hd := by omega) (hW := hWx) (k := 61) (tk := tk1) (e_tk := show Gx 11 = tk1 from (ex_tk1)) (tn := Gx 13) (e_tn := show Gx 13 = Gx 13 from rfl)  (h_k := ⟨(by decide), (by decide)⟩)  ) (fun o V_q hq => ?_)
  obtain ⟨r568, rfl, rfl, b569, q570⟩ := hq
  refine .inr ⟨_, rfl, ?_⟩
  rcases q570 with ⟨rfl, a571, a572, a573⟩ | rfl
  · have _q : True := trivial
    refine jx_vr (pc_q := 96) (as := [.int (i32 (1))]) (st := []) rfl rfl rfl rfl ⟨rfl, rfl, Nat.le_of_ble_eq_true rfl⟩ rfl rfl (c_need (dd := d) (hd := by omega) (hW := hWx) (g := 1) (ln := ln) (e_ln := show Gx 9 = ln from (fx_9)) (le := le) (e_le := show Ax 4 (ln).toNat = le from (congrFun (hFx.2 4 rfl) _).trans (e_le)) (at0 := at1) (e_at0 := show Gx 10 = at1 from (ex_at1)) (fk := fk1) (e_fk := show Gx 16 = fk1 from (ex_fk1)) (tk0 := tk1) (e_tk0 := show Gx 11 = tk1 from (ex_tk1))  (h_g := ⟨(by decide), (by decide)⟩)  (p_0 := by omega)) (fun o V_q hq => ?_)
    obtain ⟨G574, A575, at2_576, tk2_577, fk2_578, rfl, rfl, hW579, hF580, e581, e582, e583, p584, p585, q586⟩ := hq
    have hF587 := Fr_tr hFx hF580 (Fr_sub (by decide)) (Fr_sub (by decide))
    have hP588 := Pf_f hPx hF580 (by decide)
    have hS589 := Fx_f hSx hF580 (by decide)
    have hV590 := Fx_f hVx hF580 (by decide)
    have sf591 : ND A575 (n) (27) (sa1) (0) (0) (0) (0) (0) := ND_ag (by omega) (Ag_fr hF580 (by decide)) iv_12
    have sf592 : NdM A575 (nd) (nd1) (sy) := NdM_f hF580 (by decide) iv_14
    have ec593 : ecn A575 (G574 31) = ec1 := (ecn_f (hF580.2 15 rfl) (hF580.1 31 rfl)).trans ex_ec1
    have bat2_576 : (0 : Int) ≤ at2_576 ∧ at2_576 ≤ 3002 := e581 ▸ hW579.1 10
    have ztk2_577 := tz_b tk2_577
    have btk2_577 : (0 : Int) ≤ tk2_577 ∧ tk2_577 ≤ 5 := e582 ▸ hW579.1 11
    have bfk2_578 : (0 : Int) ≤ fk2_578 ∧ fk2_578 ≤ 6 := e583 ▸ hW579.1 16
    refine .inl ⟨rfl, ?_⟩
    rcases q586 with ⟨a594, a595, a596, a597⟩ | ⟨a598, a599, a600, a601⟩
    · have _q : True := trivial
      have z602 := tz_f (tk2_577)
      exact c_readSeq_w_at_96p (X := X) (k := k) (hP := hP) (d := d) (Vs := Vs) (sb := sb) (pb := pb) (hvb := hvb) (c0 := c0) (c1 := c1) (G := G) (A := A) (T := T) (lv := lv) (ln := ln) (li := li) (at0 := at0) (fk := fk) (nd := nd) (sy := sy) (na := na) (vi := vi) (le := le) (op0 := op0) (tk0 := tk0) (ec := ec) (hd := hd) (hW := hW) (e_ln := e_ln) (e_li := e_li) (e_at0 := e_at0) (e_fk := e_fk) (e_nd := e_nd) (e_sy := e_sy) (e_na := e_na) (e_vi := e_vi) (e_le := e_le) (e_op0 := e_op0) (e_tk0 := e_tk0) (e_ec := e_ec) (i_LT := i_LT) (i_SV := i_SV) (i_PQ := i_PQ) (h_lv := h_lv) (p_0 := p_0) (p_1 := p_1) (p_2 := p_2) (p_3 := p_3) (p_4 := p_4) (p_5 := p_5) (p_6 := p_6) (p_7 := p_7) (p_8 := p_8) (p_9 := p_9) (p_10 := p_10) L G574 A575 (n) (at2_576) (tk2_577) (fk2_578) (nd1) (op1) (sy1) (na1) (ec1) gL_0 gL_1 gL_2 hW579 hF587 hP588 hS589 hV590 ((e581)) ((e582)) ((e583)) (((hF580.1 31 rfl).trans (ex_nd1))) (((hF580.1 15 rfl).trans (ex_op1))) (((hF580.1 19 rfl).trans (ex_sy1))) (((hF580.1 28 rfl).trans (ex_na1))) (ec593) (((hF580.1 9 rfl).trans (fx_9))) (((hF580.1 29 rfl).trans (fx_29))) (by omega) (by omega) (by omega) (by omega) (by omega) (by omega) (by omega) (by omega) (by omega)
    · have _q : True := trivial
      have pz603 : at1 + tz tk2_577 ≤ at2_576 := by omega
      have z604 := tz_f (tk2_577)
      exact c_readSeq_w_at_96 (X := X) (k := k) (hP := hP) (d := d) (Vs := Vs) (sb := sb) (pb := pb) (hvb := hvb) (c0 := c0) (c1 := c1) (G := G) (A := A) (T := T) (lv := lv) (ln := ln) (li := li) (at0 := at0) (fk := fk) (nd := nd) (sy := sy) (na := na) (vi := vi) (le := le) (op0 := op0) (tk0 := tk0) (ec := ec) (hd := hd) (hW := hW) (e_ln := e_ln) (e_li := e_li) (e_at0 := e_at0) (e_fk := e_fk) (e_nd := e_nd) (e_sy := e_sy) (e_na := e_na) (e_vi := e_vi) (e_le := e_le) (e_op0 := e_op0) (e_tk0 := e_tk0) (e_ec := e_ec) (i_LT := i_LT) (i_SV := i_SV) (i_PQ := i_PQ) (h_lv := h_lv) (p_0 := p_0) (p_1 := p_1) (p_2 := p_2) (p_3 := p_3) (p_4 := p_4) (p_5 := p_5) (p_6 := p_6) (p_7 := p_7) (p_8 := p_8) (p_9 := p_9) (p_10 := p_10) L G574 A575 (n) (at2_576) (tk2_577) (fk2_578) (nd1) (op1) (sy1) (na1) (sa1) (ka1) (ec1) gL_0 gL_1 gL_2 hW579 hF587 hP588 hS589 hV590 ((e581)) ((e582)) ((e583)) (((hF580.1 31 rfl).trans (ex_nd1))) (((hF580.1 15 rfl).trans (ex_op1))) (((hF580.1 19 rfl).trans (ex_sy1))) (((hF580.1 28 rfl).trans (ex_na1))) ((congrFun (hF580.2 17 rfl) _).trans (ex_sa1)) ((congrFun (hF580.2 7 rfl) _).trans (ex_ka1)) (ec593) (((hF580.1 9 rfl).trans (fx_9))) (((hF580.1 29 rfl).trans (fx_29))) (by omega) (by omega) (by omega) (by omega) (by omega) (by omega) (by omega) (by omega) (by omega) (by omega) (by omega) (by omega) (by omega) (sf591) (by omega) (sf592)
  · have _q : True := trivial
    refine jx_vr (pc_q := 96) (as := [.int (i32 (0))]) (st := []) rfl rfl rfl rfl ⟨rfl, rfl, Nat.le_of_ble_eq_true rfl⟩ rfl rfl (c_need (dd := d) (hd := by omega) (hW := hWx) (g := 0) (ln := ln) (e_ln := show Gx 9 = ln from (fx_9)) (le := le) (e_le := show Ax 4 (ln).toNat = le from (congrFun (hFx.2 4 rfl) _).trans (e_le)) (at0 := at1) (e_at0 := show Gx 10 = at1 from (ex_at1)) (fk := fk1) (e_fk := show Gx 16 = fk1 from (ex_fk1)) (tk0 := tk1) (e_tk0 := show Gx 11 = tk1 from (ex_tk1))  (h_g := ⟨(by decide), (by decide)⟩)  (p_0 := by omega)) (fun o V_q hq => ?_)
    obtain ⟨G605, A606, at2_607, tk2_608, fk2_609, rfl, rfl, hW610, hF611, e612, e613, e614, p615, p616, q617⟩ := hq
    have hF618 := Fr_tr hFx hF611 (Fr_sub (by decide)) (Fr_sub (by decide))
    have hP619 := Pf_f hPx hF611 (by decide)
    have hS620 := Fx_f hSx hF611 (by decide)
    have hV621 := Fx_f hVx hF611 (by decide)
    have sf622 : ND A606 (n) (27) (sa1) (0) (0) (0) (0) (0) := ND_ag (by omega) (Ag_fr hF611 (by decide)) iv_12
    have sf623 : NdM A606 (nd) (nd1) (sy) := NdM_f hF611 (by decide) iv_14
    have ec624 : ecn A606 (G605 31) = ec1 := (ecn_f (hF611.2 15 rfl) (hF611.1 31 rfl)).trans ex_ec1
    have bat2_607 : (0 : Int) ≤ at2_607 ∧ at2_607 ≤ 3002 := e612 ▸ hW610.1 10
    have ztk2_608 := tz_b tk2_608
    have btk2_608 : (0 : Int) ≤ tk2_608 ∧ tk2_608 ≤ 5 := e613 ▸ hW610.1 11
    have bfk2_609 : (0 : Int) ≤ fk2_609 ∧ fk2_609 ≤ 6 := e614 ▸ hW610.1 16
    refine .inl ⟨rfl, ?_⟩
    rcases q617 with ⟨a625, a626, a627, a628⟩ | ⟨a629, a630, a631, a632⟩
    · have _q : True := trivial
      have z633 := tz_f (tk2_608)
      exact c_readSeq_w_at_96p (X := X) (k := k) (hP := hP) (d := d) (Vs := Vs) (sb := sb) (pb := pb) (hvb := hvb) (c0 := c0) (c1 := c1) (G := G) (A := A) (T := T) (lv := lv) (ln := ln) (li := li) (at0 := at0) (fk := fk) (nd := nd) (sy := sy) (na := na) (vi := vi) (le := le) (op0 := op0) (tk0 := tk0) (ec := ec) (hd := hd) (hW := hW) (e_ln := e_ln) (e_li := e_li) (e_at0 := e_at0) (e_fk := e_fk) (e_nd := e_nd) (e_sy := e_sy) (e_na := e_na) (e_vi := e_vi) (e_le := e_le) (e_op0 := e_op0) (e_tk0 := e_tk0) (e_ec := e_ec) (i_LT := i_LT) (i_SV := i_SV) (i_PQ := i_PQ) (h_lv := h_lv) (p_0 := p_0) (p_1 := p_1) (p_2 := p_2) (p_3 := p_3) (p_4 := p_4) (p_5 := p_5) (p_6 := p_6) (p_7 := p_7) (p_8 := p_8) (p_9 := p_9) (p_10 := p_10) L G605 A606 (n) (at2_607) (tk2_608) (fk2_609) (nd1) (op1) (sy1) (na1) (ec1) gL_0 gL_1 gL_2 hW610 hF618 hP619 hS620 hV621 ((e612)) ((e613)) ((e614)) (((hF611.1 31 rfl).trans (ex_nd1))) (((hF611.1 15 rfl).trans (ex_op1))) (((hF611.1 19 rfl).trans (ex_sy1))) (((hF611.1 28 rfl).trans (ex_na1))) (ec624) (((hF611.1 9 rfl).trans (fx_9))) (((hF611.1 29 rfl).trans (fx_29))) (by omega) (by omega) (by omega) (by omega) (by omega) (by omega) (by omega) (by omega) (by omega)
    · have _q : True := trivial
      exfalso
      omega
set_option maxRecDepth 20000 in
set_option maxHeartbeats 4000000 in
theorem c_readSeq_w {X : jX} {k : Nat} (hP : RPw X k) {dd : Nat} {Vs : Nat → Prop} {sb pb : Int} (hvb : VB Vs sb) {c0 c1 : jC} {G : Nat → Int} {A : Nat → Nat → Int} {T : jH} {lv : Int} {ln li at0 fk nd sy na vi le op0 tk0 ec : Int} (hd : 8 * k + 82 ≤ dd) (hW : Wk G A) (e_ln : G 9 = ln) (e_li : G 3 = li) (e_at0 : G 10 = at0) (e_fk : G 16 = fk) (e_nd : G 31 = nd) (e_sy : G 19 = sy) (e_na : G 28 = na) (e_vi : G 29 = vi) (e_le : A 4 (ln).toNat = le) (e_op0 : G 15 = op0) (e_tk0 : G 11 = tk0) (e_ec : ecn A (G 31) = ec) (i_LT : LT G A) (i_SV : SV Vs sb G A) (i_PQ : PQ Vs sb pb G A) (h_lv : (-2147483648 : Int) ≤ lv ∧ lv ≤ 2147483647) (p_0 : 0 ≤ lv ∧ lv ≤ 15) (p_1 : 18 - lv ≤ ((k + 1 : Nat) : Int)) (p_2 : fk = 0) (p_3 : ln < li) (p_4 : at0 ≤ le) (p_5 : op0 = 0) (p_6 : nd ≤ 2 * at0 - tz tk0 + 30) (p_7 : sy ≤ na + 2) (p_8 : vi ≤ sy) (p_9 : sb = sy) (p_10 : 1 ≤ tk0) : wk X dd 297 [.ref 66, .int (i32 lv)] (rV c0 c1 G A T) (fun o V_q => ∃ (G_q : Nat → Int) (A_q : Nat → Nat → Int) (r : Int) (ln2 : Int) (at2 : Int) (fk2 : Int) (nd2 : Int) (sy2 : Int) (na2 : Int) (vi2 : Int) (lf2 : Int) (ec2 : Int), V_q = rV c0 c1 G_q A_q T ∧ o = .inl (some (.int (i32 r))) ∧ Wk G_q A_q ∧ Fr [9, 10, 11, 12, 13, 14, 15, 16, 17, 18, 19, 28, 29, 31] [6, 7, 8, 9, 10, 11, 12, 14, 15, 16, 17, 18, 19, 20, 21, 22, 23, 24, 28] G A G_q A_q ∧ Pf nd A A_q ∧ Fx sr (sy) A A_q ∧ Fx [14] (vi) A A_q ∧ ((-2147483648 : Int) ≤ r ∧ r ≤ 2147483647) ∧ G_q 9 = ln2 ∧ G_q 10 = at2 ∧ G_q 16 = fk2 ∧ G_q 31 = nd2 ∧ G_q 19 = sy2 ∧ G_q 28 = na2 ∧ G_q 29 = vi2 ∧ A_q 3 (ln2).toNat = lf2 ∧ ecn A_q (G_q 31) = ec2 ∧ (at0 ≤ at2) ∧ (nd ≤ nd2) ∧ (sy ≤ sy2) ∧ (sy2 ≤ na2 + 2) ∧ (vi ≤ vi2) ∧ (vi2 ≤ vi + 1) ∧ (0 ≤ r) ∧ (r ≤ 6999) ∧ (ln ≤ ln2) ∧ (ln2 ≤ li) ∧ (((1 ≤ fk2) ∧ (nd2 - nd ≤ 2 * at2 - (2 * at0 - tz tk0) + 14)) ∨ ((fk2 = 0) ∧ (vi2 = vi) ∧ (ln < ln2) ∧ (nd2 - nd ≤ 2 * at2 - (2 * at0 - tz tk0)) ∧ (at2 < lf2 ∨ li ≤ ln2) ∧ (nd ≤ r) ∧ (r < nd2) ∧ (wSt A_q (sy2) pb (wP A_q (sy2) pb (k)) (Vs) (r) (nd) (nd2) (sy) (sy2)) ∧ (NX A_q (r)) ∧ (nd2 - nd + 5 * (ec2 - ec) ≤ 2 * at2 - (2 * at0 - tz tk0)) ∧ (NdM A_q (nd) (nd2) (sy))))) := by
  obtain ⟨d, rfl⟩ : ∃ d, dd = d + 1 := ⟨dd - 1, by omega⟩
  refine wk_of (e := jm297) rfl (Nat.le_of_ble_eq_true rfl) ?_
  show wj X d jm297 (0, [(0, .ref 66), (1, .int (i32 (lv)))], [], rV c0 c1 G A T) _
  have hF0 : Fr [9, 10, 11, 12, 13, 14, 15, 16, 17, 18, 19, 28, 29, 31] [6, 7, 8, 9, 10, 11, 12, 14, 15, 16, 17, 18, 19, 20, 21, 22, 23, 24, 28] G A G A := Fr_rf
  have hP0 : Pf nd A A := Pf_rf
  have hS0 : Fx sr (sy) A A := Fx_rf
  have hV0 : Fx [14] (vi) A A := Fx_rf
  have b_ln : (0 : Int) ≤ ln ∧ ln ≤ 3000 := e_ln ▸ hW.1 9
  have b_li : (0 : Int) ≤ li ∧ li ≤ 3000 := e_li ▸ hW.1 3
  have b_at0 : (0 : Int) ≤ at0 ∧ at0 ≤ 3002 := e_at0 ▸ hW.1 10
  have b_fk : (0 : Int) ≤ fk ∧ fk ≤ 6 := e_fk ▸ hW.1 16
  have b_nd : (0 : Int) ≤ nd ∧ nd ≤ 6999 := e_nd ▸ hW.1 31
  have b_sy : (0 : Int) ≤ sy ∧ sy ≤ 202 := e_sy ▸ hW.1 19
  have b_na : (0 : Int) ≤ na ∧ na ≤ 200 := e_na ▸ hW.1 28
  have b_vi : (0 : Int) ≤ vi ∧ vi ≤ 202 := e_vi ▸ hW.1 29
  have b_le : (0 : Int) ≤ le ∧ le ≤ 3000 := e_le ▸ hW.2 4 _
  have b_op0 : (-2147483648 : Int) ≤ op0 ∧ op0 ≤ 2147483647 := e_op0 ▸ hW.1 15
  have z_tk0 := tz_f tk0
  have b_tk0 : (0 : Int) ≤ tk0 ∧ tk0 ≤ 5 := e_tk0 ▸ hW.1 11
  refine jx_ld (pc_q := 1) (l_q := [(0, .ref 66), (1, .int (i32 (lv)))]) (st_q := [.ref 66]) rfl (jl_aloadn rfl) ?_
  refine jx_vr (pc_q := 4) (as := []) (st := []) rfl rfl rfl rfl ⟨rfl, rfl, Nat.le_of_ble_eq_true rfl⟩ rfl rfl (c_next (dd := d) (hd := by omega) (hW := hW)  (ln := ln) (e_ln := show G 9 = ln from (e_ln)) (le := le) (e_le := show A 4 (ln).toNat = le from (e_le)) (at0 := at0) (e_at0 := show G 10 = at0 from (e_at0))    (p_0 := by omega)) (fun o V_q hq => ?_)
  obtain ⟨G634, A635, at2_636, tk2_637, rfl, rfl, hW638, hF639, e640, e641, p642, p643, p644, -⟩ := hq
  have hF646 := Fr_tr hF0 hF639 (Fr_sub (by decide)) (Fr_sub (by decide))
  have hP647 := Pf_f hP0 hF639 (by decide)
  have hS648 := Fx_f hS0 hF639 (by decide)
  have hV649 := Fx_f hV0 hF639 (by decide)
  have ec650 : ecn A635 (G634 31) = ec := (ecn_f (hF639.2 15 rfl) (hF639.1 31 rfl)).trans e_ec
  have bat2_636 : (0 : Int) ≤ at2_636 ∧ at2_636 ≤ 3002 := e640 ▸ hW638.1 10
  have ztk2_637 := tz_b tk2_637
  have btk2_637 : (0 : Int) ≤ tk2_637 ∧ tk2_637 ≤ 5 := e641 ▸ hW638.1 11
  refine .inl ⟨rfl, ?_⟩
  have pz651 : at0 + tz tk2_637 ≤ at2_636 := by omega
  refine jx_ld (pc_q := 5) (l_q := [(0, .ref 66), (1, .int (i32 (lv)))]) (st_q := [.ref 66]) rfl (jl_aloadn rfl) ?_
  have z652 := tz_f (tk2_637)
  refine jr_get (pc_q := 8) (i := 11) (v := .int (i32 (tk2_637))) rfl rfl (by decide) (rFv_eq (by decide) (show G634 11 = tk2_637 from (e641))) rfl ?_
  refine jx_if_ne (pc_q := 11) (tg := 38) rfl rfl rfl (Int.le_trans (by decide : (-2147483648 : Int) ≤ 0) btk2_637.1) (Int.le_trans btk2_637.2 (by decide : (5 : Int) ≤ 2147483647)) (fun h653 => ?_) (fun h653 => ?_)
  · have _q := h653
    refine jx_ld (pc_q := 39) (l_q := [(0, .ref 66), (1, .int (i32 (lv)))]) (st_q := [.ref 66]) rfl (jl_aloadn rfl) ?_
    have z654 := tz_f (tk2_637)
    refine jr_get (pc_q := 42) (i := 11) (v := .int (i32 (tk2_637))) rfl rfl (by decide) (rFv_eq (by decide) (show G634 11 = tk2_637 from (e641))) rfl ?_
    refine jx_ar (pc_q := 43) (st_q := [.int (i32 (1)), .int (i32 (tk2_637))]) rfl rfl rfl rfl ?_
    refine jx_icmp_eq (pc_q := 46) (tg := 57) rfl rfl rfl (Int.le_trans (by decide : (-2147483648 : Int) ≤ 0) btk2_637.1) (Int.le_trans btk2_637.2 (by decide : (5 : Int) ≤ 2147483647)) (by decide) (by decide) (fun h655 => ?_) (fun h655 => ?_)
    · have _q := h655
      refine jx_ld (pc_q := 58) (l_q := [(0, .ref 66), (1, .int (i32 (lv)))]) (st_q := [.ref 66]) rfl (jl_aloadn rfl) ?_
      refine jx_ar (pc_q := 60) (st_q := [.int (i32 (27)), .ref 66]) rfl rfl rfl rfl ?_
      refine jx_ar (pc_q := 61) (st_q := [.int (i32 (0)), .int (i32 (27)), .ref 66]) rfl rfl rfl rfl ?_
      refine jx_ar (pc_q := 62) (st_q := [.int (i32 (0)), .int (i32 (0)), .int (i32 (27)), .ref 66]) rfl rfl rfl rfl ?_
      refine jx_ar (pc_q := 63) (st_q := [.int (i32 (0)), .int (i32 (0)), .int (i32 (0)), .int (i32 (27)), .ref 66]) rfl rfl rfl rfl ?_
      refine jx_ar (pc_q := 64) (st_q := [.int (i32 (0)), .int (i32 (0)), .int (i32 (0)), .int (i32 (0)), .int (i32 (27)), .ref 66]) rfl rfl rfl rfl ?_
      refine jx_vr (pc_q := 67) (as := [.int (i32 (27)), .int (i32 (0)), .int (i32 (0)), .int (i32 (0)), .int (i32 (0))]) (st := []) rfl rfl rfl rfl ⟨rfl, rfl, Nat.le_of_ble_eq_true rfl⟩ rfl rfl (c_node_o (dd := d) (hd := by omega) (hW := hW638) (kind := 27) (a := 0) (b := 0) (c := 0) (e := 0) (nd := nd) (e_nd := show G634 31 = nd from ((hF639.1 31 rfl).trans (e_nd))) (ec := ec) (e_ec := show ecn A635 (G634 31) = ec from ec650) (sy := sy) (e_sy := show G634 19 = sy from ((hF639.1 19 rfl).trans (e_sy)))  (h_kind := ⟨(by decide), (by decide)⟩) (h_a := ⟨(by decide), (by decide)⟩) (h_b := ⟨(by decide), (by decide)⟩) (h_c := ⟨(by decide), (by decide)⟩) (h_e := ⟨(by decide), (by decide)⟩)  (p_0 := by omega) (p_1 := by omega) (p_2 := by omega)) (fun o V_q hq => ?_)
      obtain ⟨G656, A657, nd2_658, ec2_659, rfl, rfl, hW660, hF661, hQ662, e663, e664, p665, p666, p667, p668, -⟩ := hq
      have hF670 := Fr_tr hF646 hF661 (Fr_sub (by decide)) (Fr_sub (by decide))
      have hP671 := Pf_tr hP647 hQ662 (by omega)
      have hS672 := Fx_f hS648 hF661 (by decide)
      have hV673 := Fx_f hV649 hF661 (by decide)
      have bnd2_658 : (0 : Int) ≤ nd2_658 ∧ nd2_658 ≤ 6999 := e663 ▸ hW660.1 31
      refine .inr ⟨_, rfl, ?_⟩
      refine jx_ld (pc_q := 68) (l_q := jSto1 [(0, .ref 66), (1, .int (i32 (lv)))] 2 (.int (i32 (nd)))) (st_q := []) rfl rfl ?_
      obtain ⟨L674, eL674⟩ : ∃ q, q = jSto1 [(0, .ref 66), (1, .int (i32 (lv)))] 2 (.int (i32 (nd))) := ⟨_, rfl⟩
      rw [← eL674]
      have gL674_0 : jGet L674 0 = some (.ref 66) := eL674 ▸ jg_ne (by decide) (rfl : jGet [(0, .ref 66), (1, .int (i32 (lv)))] 0 = some (.ref 66)) rfl
      have gL674_1 : jGet L674 1 = some (.int (i32 (lv))) := eL674 ▸ jg_ne (by decide) (rfl : jGet [(0, .ref 66), (1, .int (i32 (lv)))] 1 = some (.int (i32 (lv)))) rfl
      have gL674_2 : jGet L674 2 = some (.int (i32 (nd))) := eL674 ▸ jg_eq
      refine jx_ld (pc_q := 69) (l_q := L674) (st_q := [.ref 66]) rfl (jl_aloadn gL674_0) ?_
      refine jr_get (pc_q := 72) (i := 34) (v := .ref 84) rfl rfl (by decide) rfl rfl ?_
      refine jx_ld (pc_q := 73) (l_q := L674) (st_q := [.int (i32 (nd)), .ref 84]) rfl (jl_iloadn gL674_2) ?_
      refine jx_ld (pc_q := 74) (l_q := L674) (st_q := [.ref 66, .int (i32 (nd)), .ref 84]) rfl (jl_aloadn gL674_0) ?_
      refine jx_ar (pc_q := 76) (st_q := [.int (i32 (9)), .ref 66, .int (i32 (nd)), .ref 84]) rfl rfl rfl rfl ?_
      refine jx_ar (pc_q := 77) (st_q := [.int (i32 (2)), .int (i32 (9)), .ref 66, .int (i32 (nd)), .ref 84]) rfl rfl rfl rfl ?_
      refine jx_vr (pc_q := 80) (as := [.int (i32 (9)), .int (i32 (2))]) (st := [.int (i32 (nd)), .ref 84]) rfl rfl rfl rfl ⟨rfl, rfl, Nat.le_of_ble_eq_true rfl⟩ rfl rfl (c_newName (dd := d) (hd := by omega) (hW := hW660) (kind := 9) (many := 2) (sy := sy) (e_sy := show G656 19 = sy from ((hF661.1 19 rfl).trans ((hF639.1 19 rfl).trans (e_sy)))) (na := na) (e_na := show G656 28 = na from ((hF661.1 28 rfl).trans ((hF639.1 28 rfl).trans (e_na)))) (fk := fk) (e_fk := show G656 16 = fk from ((hF661.1 16 rfl).trans ((hF639.1 16 rfl).trans (e_fk))))  (h_kind := ⟨(by decide), (by decide)⟩) (h_many := ⟨(by decide), (by decide)⟩)  (p_0 := by omega) (p_1 := by omega)) (fun o V_q hq => ?_)
      obtain ⟨G675, A676, r677, sy2_678, na2_679, fk2_680, yk2_681, rfl, rfl, hW682, hF683, hQ684, b685, e686, e687, e688, e689, q690⟩ := hq
      have hF691 := Fr_tr hF670 hF683 (Fr_sub (by decide)) (Fr_sub (by decide))
      have hP692 := Pf_f hP671 hF683 (by decide)
      have hS693 := Fx_tr hS672 hQ684 (by omega)
      have hV694 := Fx_f hV673 hF683 (by decide)
      have sf695 : ND A676 (nd) (27) (0) (0) (0) (0) (0) (0) := ND_ag (by omega) (Ag_fr hF683 (by decide)) p667
      have sf696 : NdM A676 (nd) (nd + 1) (sy) := NdM_f hF683 (by decide) p668
      have ec697 : ecn A676 (G675 31) = ec2_659 := (ecn_f (hF683.2 15 rfl) (hF683.1 31 rfl)).trans e664
      have bsy2_678 : (0 : Int) ≤ sy2_678 ∧ sy2_678 ≤ 202 := e686 ▸ hW682.1 19
      have bna2_679 : (0 : Int) ≤ na2_679 ∧ na2_679 ≤ 200 := e687 ▸ hW682.1 28
      have bfk2_680 : (0 : Int) ≤ fk2_680 ∧ fk2_680 ≤ 6 := e688 ▸ hW682.1 16
      have byk2_681 : (0 : Int) ≤ yk2_681 ∧ yk2_681 ≤ 14 := e689 ▸ hW682.2 7 _
      refine .inr ⟨_, rfl, ?_⟩
      rcases q690 with ⟨a704, a698, a699, a700, a701, a702, a703⟩ | ⟨rfl, a705, a706, a707⟩
      · have _q : True := trivial
        rw [a704]
        refine jr_st (pc_q := 81) (i := 17) (m := 7000) (z := nd) (y := sy) rfl (by decide) rfl (by decide) (by omega) (by omega) rfl ?_
        have hW709 : Wk G675 (uA A676 17 (nd).toNat (sy)) := Wk_a hW682 (show (-2147483648 : Int) ≤ sy by omega) (show sy ≤ (2147483647 : Int) by omega)
        have hF710 := Fr_a (z := sy) (k := 17) (n := (nd).toNat) hF691 (by decide)
        obtain ⟨A708, eA708⟩ : ∃ q, q = uA A676 17 (nd).toNat (sy) := ⟨_, rfl⟩
        rw [← eA708]
        rw [← eA708] at hW709 hF710
        have q711 : A708 17 (nd).toNat = sy := by rw [eA708]; exact uA_eq
        have hP712 : Pf nd A A708 := eA708 ▸ Pf_a hP692 (z := nd) (by omega) (by omega)
        have hS713 : Fx sr (sy) A A708 := eA708 ▸ Fx_n hS693 rfl
        have hV714 : Fx [14] (vi) A A708 := eA708 ▸ Fx_n hV694 rfl
        have sf715 : ND A708 (nd) (27) (sy) (0) (0) (0) (0) (0) := ND_a eA708 sf695
        have sf716 : NdM A708 (nd) (nd + 1) (sy) := NdM_st eA708 (by decide) sf696
        have sf717 : YD A708 (sy) (9) (2) := YD_fx (by omega) (by omega) (Sg_ne (sb := sy + 1) eA708 rfl) a703
        have ec718 : ecn A708 (G675 31) = ec2_659 := (ecn_e ((congrFun eA708 15).trans (uA_ne (by decide)))).trans ec697
        refine jx_ld (pc_q := 82) (l_q := L674) (st_q := [.ref 66]) rfl (jl_aloadn gL674_0) ?_
        refine jx_ar (pc_q := 83) (st_q := [.int (i32 (1)), .ref 66]) rfl rfl rfl rfl ?_
        refine jx_vr (pc_q := 86) (as := [.int (i32 (1))]) (st := []) rfl rfl rfl rfl ⟨rfl, rfl, Nat.le_of_ble_eq_true rfl⟩ rfl rfl (c_need (dd := d) (hd := by omega) (hW := hW709) (g := 1) (ln := ln) (e_ln := show G675 9 = ln from ((hF683.1 9 rfl).trans ((hF661.1 9 rfl).trans ((hF639.1 9 rfl).trans (e_ln))))) (le := le) (e_le := show A708 4 (ln).toNat = le from (congrFun (((congrFun eA708 4).trans (uA_ne (by decide))).trans ((hF683.2 4 rfl).trans ((hF661.2 4 rfl).trans (hF639.2 4 rfl)))) _).trans (e_le)) (at0 := at2_636) (e_at0 := show G675 10 = at2_636 from ((hF683.1 10 rfl).trans ((hF661.1 10 rfl).trans (e640)))) (fk := fk2_680) (e_fk := show G675 16 = fk2_680 from (e688)) (tk0 := tk2_637) (e_tk0 := show G675 11 = tk2_637 from ((hF683.1 11 rfl).trans ((hF661.1 11 rfl).trans (e641))))  (h_g := ⟨(by decide), (by decide)⟩)  (p_0 := by omega)) (fun o V_q hq => ?_)
        obtain ⟨G719, A720, at2_721, tk2_722, fk2_723, rfl, rfl, hW724, hF725, e726, e727, e728, p729, p730, q731⟩ := hq
        have hF732 := Fr_tr hF710 hF725 (Fr_sub (by decide)) (Fr_sub (by decide))
        have hP733 := Pf_f hP712 hF725 (by decide)
        have hS734 := Fx_f hS713 hF725 (by decide)
        have hV735 := Fx_f hV714 hF725 (by decide)
        have sf736 : ND A720 (nd) (27) (sy) (0) (0) (0) (0) (0) := ND_ag (by omega) (Ag_fr hF725 (by decide)) sf715
        have sf737 : NdM A720 (nd) (nd + 1) (sy) := NdM_f hF725 (by decide) sf716
        have sf738 : YD A720 (sy) (9) (2) := YD_fx (by omega) (by omega) (Sg_fr (sb := sy + 1) hF725 (by decide)) sf717
        have ec739 : ecn A720 (G719 31) = ec2_659 := (ecn_f (hF725.2 15 rfl) (hF725.1 31 rfl)).trans ec718
        have bat2_721 : (0 : Int) ≤ at2_721 ∧ at2_721 ≤ 3002 := e726 ▸ hW724.1 10
        have ztk2_722 := tz_b tk2_722
        have btk2_722 : (0 : Int) ≤ tk2_722 ∧ tk2_722 ≤ 5 := e727 ▸ hW724.1 11
        have bfk2_723 : (0 : Int) ≤ fk2_723 ∧ fk2_723 ≤ 6 := e728 ▸ hW724.1 16
        refine .inl ⟨rfl, ?_⟩
        rcases q731 with ⟨a740, a741, a742, a743⟩ | ⟨a744, a745, a746, a747⟩
        · have _q : True := trivial
          have z748 := tz_f (tk2_722)
          exact c_readSeq_w_at_86p (X := X) (k := k) (hP := hP) (d := d) (Vs := Vs) (sb := sb) (pb := pb) (hvb := hvb) (c0 := c0) (c1 := c1) (G := G) (A := A) (T := T) (lv := lv) (ln := ln) (li := li) (at0 := at0) (fk := fk) (nd := nd) (sy := sy) (na := na) (vi := vi) (le := le) (op0 := op0) (tk0 := tk0) (ec := ec) (hd := hd) (hW := hW) (e_ln := e_ln) (e_li := e_li) (e_at0 := e_at0) (e_fk := e_fk) (e_nd := e_nd) (e_sy := e_sy) (e_na := e_na) (e_vi := e_vi) (e_le := e_le) (e_op0 := e_op0) (e_tk0 := e_tk0) (e_ec := e_ec) (i_LT := i_LT) (i_SV := i_SV) (i_PQ := i_PQ) (h_lv := h_lv) (p_0 := p_0) (p_1 := p_1) (p_2 := p_2) (p_3 := p_3) (p_4 := p_4) (p_5 := p_5) (p_6 := p_6) (p_7 := p_7) (p_8 := p_8) (p_9 := p_9) (p_10 := p_10) L674 G719 A720 (nd) (at2_721) (tk2_722) (fk2_723) (nd2_658) (op0) (sy2_678) (na2_679) (ec2_659) gL674_0 gL674_1 gL674_2 hW724 hF732 hP733 hS734 hV735 ((e726)) ((e727)) ((e728)) (((hF725.1 31 rfl).trans ((hF683.1 31 rfl).trans (e663)))) (((hF725.1 15 rfl).trans ((hF683.1 15 rfl).trans ((hF661.1 15 rfl).trans ((hF639.1 15 rfl).trans (e_op0)))))) (((hF725.1 19 rfl).trans (e686))) (((hF725.1 28 rfl).trans (e687))) (ec739) (((hF725.1 9 rfl).trans ((hF683.1 9 rfl).trans ((hF661.1 9 rfl).trans ((hF639.1 9 rfl).trans (e_ln)))))) (((hF725.1 29 rfl).trans ((hF683.1 29 rfl).trans ((hF661.1 29 rfl).trans ((hF639.1 29 rfl).trans (e_vi)))))) (by omega) (by omega) (by omega) (by omega) (by omega) (by omega) (by omega) (by omega) (by omega)
        · have _q : True := trivial
          have pz749 : at2_636 + tz tk2_722 ≤ at2_721 := by omega
          have z750 := tz_f (tk2_722)
          exact c_readSeq_w_at_86 (X := X) (k := k) (hP := hP) (d := d) (Vs := Vs) (sb := sb) (pb := pb) (hvb := hvb) (c0 := c0) (c1 := c1) (G := G) (A := A) (T := T) (lv := lv) (ln := ln) (li := li) (at0 := at0) (fk := fk) (nd := nd) (sy := sy) (na := na) (vi := vi) (le := le) (op0 := op0) (tk0 := tk0) (ec := ec) (hd := hd) (hW := hW) (e_ln := e_ln) (e_li := e_li) (e_at0 := e_at0) (e_fk := e_fk) (e_nd := e_nd) (e_sy := e_sy) (e_na := e_na) (e_vi := e_vi) (e_le := e_le) (e_op0 := e_op0) (e_tk0 := e_tk0) (e_ec := e_ec) (i_LT := i_LT) (i_SV := i_SV) (i_PQ := i_PQ) (h_lv := h_lv) (p_0 := p_0) (p_1 := p_1) (p_2 := p_2) (p_3 := p_3) (p_4 := p_4) (p_5 := p_5) (p_6 := p_6) (p_7 := p_7) (p_8 := p_8) (p_9 := p_9) (p_10 := p_10) L674 G719 A720 (nd) (at2_721) (tk2_722) (fk2_723) (nd2_658) (op0) (sy2_678) (na2_679) (sy) (yk2_681) (ec2_659) gL674_0 gL674_1 gL674_2 hW724 hF732 hP733 hS734 hV735 ((e726)) ((e727)) ((e728)) (((hF725.1 31 rfl).trans ((hF683.1 31 rfl).trans (e663)))) (((hF725.1 15 rfl).trans ((hF683.1 15 rfl).trans ((hF661.1 15 rfl).trans ((hF639.1 15 rfl).trans (e_op0)))))) (((hF725.1 19 rfl).trans (e686))) (((hF725.1 28 rfl).trans (e687))) ((congrFun (hF725.2 17 rfl) _).trans (q711)) ((congrFun ((hF725.2 7 rfl).trans ((congrFun eA708 7).trans (uA_ne (by decide)))) _).trans (e689)) (ec739) (((hF725.1 9 rfl).trans ((hF683.1 9 rfl).trans ((hF661.1 9 rfl).trans ((hF639.1 9 rfl).trans (e_ln)))))) (((hF725.1 29 rfl).trans ((hF683.1 29 rfl).trans ((hF661.1 29 rfl).trans ((hF639.1 29 rfl).trans (e_vi)))))) (by omega) (by omega) (by omega) (by omega) (by omega) (by omega) (by omega) (by omega) (by omega) (by omega) (by omega) (by omega) (by omega) (sf736) (by omega) ((NdM_w sf737 (by omega) (by omega) (by omega)))
      · have _q : True := trivial
        refine jr_st (pc_q := 81) (i := 17) (m := 7000) (z := nd) (y := 0) rfl (by decide) rfl (by decide) (by omega) (by omega) rfl ?_
        have hW752 : Wk G675 (uA A676 17 (nd).toNat (0)) := Wk_a hW682 (show (-2147483648 : Int) ≤ 0 by omega) (show 0 ≤ (2147483647 : Int) by omega)
        have hF753 := Fr_a (z := 0) (k := 17) (n := (nd).toNat) hF691 (by decide)
        obtain ⟨A751, eA751⟩ : ∃ q, q = uA A676 17 (nd).toNat (0) := ⟨_, rfl⟩
        rw [← eA751]
        rw [← eA751] at hW752 hF753
        have q754 : A751 17 (nd).toNat = 0 := by rw [eA751]; exact uA_eq
        have hP755 : Pf nd A A751 := eA751 ▸ Pf_a hP692 (z := nd) (by omega) (by omega)
        have hS756 : Fx sr (sy) A A751 := eA751 ▸ Fx_n hS693 rfl
        have hV757 : Fx [14] (vi) A A751 := eA751 ▸ Fx_n hV694 rfl
        have sf758 : ND A751 (nd) (27) (0) (0) (0) (0) (0) (0) := ND_a eA751 sf695
        have sf759 : NdM A751 (nd) (nd + 1) (sy) := NdM_st eA751 (by decide) sf696
        have ec760 : ecn A751 (G675 31) = ec2_659 := (ecn_e ((congrFun eA751 15).trans (uA_ne (by decide)))).trans ec697
        refine jx_ld (pc_q := 82) (l_q := L674) (st_q := [.ref 66]) rfl (jl_aloadn gL674_0) ?_
        refine jx_ar (pc_q := 83) (st_q := [.int (i32 (1)), .ref 66]) rfl rfl rfl rfl ?_
        refine jx_vr (pc_q := 86) (as := [.int (i32 (1))]) (st := []) rfl rfl rfl rfl ⟨rfl, rfl, Nat.le_of_ble_eq_true rfl⟩ rfl rfl (c_need (dd := d) (hd := by omega) (hW := hW752) (g := 1) (ln := ln) (e_ln := show G675 9 = ln from ((hF683.1 9 rfl).trans ((hF661.1 9 rfl).trans ((hF639.1 9 rfl).trans (e_ln))))) (le := le) (e_le := show A751 4 (ln).toNat = le from (congrFun (((congrFun eA751 4).trans (uA_ne (by decide))).trans ((hF683.2 4 rfl).trans ((hF661.2 4 rfl).trans (hF639.2 4 rfl)))) _).trans (e_le)) (at0 := at2_636) (e_at0 := show G675 10 = at2_636 from ((hF683.1 10 rfl).trans ((hF661.1 10 rfl).trans (e640)))) (fk := fk2_680) (e_fk := show G675 16 = fk2_680 from (e688)) (tk0 := tk2_637) (e_tk0 := show G675 11 = tk2_637 from ((hF683.1 11 rfl).trans ((hF661.1 11 rfl).trans (e641))))  (h_g := ⟨(by decide), (by decide)⟩)  (p_0 := by omega)) (fun o V_q hq => ?_)
        obtain ⟨G761, A762, at2_763, tk2_764, fk2_765, rfl, rfl, hW766, hF767, e768, e769, e770, p771, p772, q773⟩ := hq
        have hF774 := Fr_tr hF753 hF767 (Fr_sub (by decide)) (Fr_sub (by decide))
        have hP775 := Pf_f hP755 hF767 (by decide)
        have hS776 := Fx_f hS756 hF767 (by decide)
        have hV777 := Fx_f hV757 hF767 (by decide)
        have sf778 : ND A762 (nd) (27) (0) (0) (0) (0) (0) (0) := ND_ag (by omega) (Ag_fr hF767 (by decide)) sf758
        have sf779 : NdM A762 (nd) (nd + 1) (sy) := NdM_f hF767 (by decide) sf759
        have ec780 : ecn A762 (G761 31) = ec2_659 := (ecn_f (hF767.2 15 rfl) (hF767.1 31 rfl)).trans ec760
        have bat2_763 : (0 : Int) ≤ at2_763 ∧ at2_763 ≤ 3002 := e768 ▸ hW766.1 10
        have ztk2_764 := tz_b tk2_764
        have btk2_764 : (0 : Int) ≤ tk2_764 ∧ tk2_764 ≤ 5 := e769 ▸ hW766.1 11
        have bfk2_765 : (0 : Int) ≤ fk2_765 ∧ fk2_765 ≤ 6 := e770 ▸ hW766.1 16
        refine .inl ⟨rfl, ?_⟩
        rcases q773 with ⟨a781, a782, a783, a784⟩ | ⟨a785, a786, a787, a788⟩
        · have _q : True := trivial
          have z789 := tz_f (tk2_764)
          exact c_readSeq_w_at_86p (X := X) (k := k) (hP := hP) (d := d) (Vs := Vs) (sb := sb) (pb := pb) (hvb := hvb) (c0 := c0) (c1 := c1) (G := G) (A := A) (T := T) (lv := lv) (ln := ln) (li := li) (at0 := at0) (fk := fk) (nd := nd) (sy := sy) (na := na) (vi := vi) (le := le) (op0 := op0) (tk0 := tk0) (ec := ec) (hd := hd) (hW := hW) (e_ln := e_ln) (e_li := e_li) (e_at0 := e_at0) (e_fk := e_fk) (e_nd := e_nd) (e_sy := e_sy) (e_na := e_na) (e_vi := e_vi) (e_le := e_le) (e_op0 := e_op0) (e_tk0 := e_tk0) (e_ec := e_ec) (i_LT := i_LT) (i_SV := i_SV) (i_PQ := i_PQ) (h_lv := h_lv) (p_0 := p_0) (p_1 := p_1) (p_2 := p_2) (p_3 := p_3) (p_4 := p_4) (p_5 := p_5) (p_6 := p_6) (p_7 := p_7) (p_8 := p_8) (p_9 := p_9) (p_10 := p_10) L674 G761 A762 (nd) (at2_763) (tk2_764) (fk2_765) (nd2_658) (op0) (sy2_678) (na2_679) (ec2_659) gL674_0 gL674_1 gL674_2 hW766 hF774 hP775 hS776 hV777 ((e768)) ((e769)) ((e770)) (((hF767.1 31 rfl).trans ((hF683.1 31 rfl).trans (e663)))) (((hF767.1 15 rfl).trans ((hF683.1 15 rfl).trans ((hF661.1 15 rfl).trans ((hF639.1 15 rfl).trans (e_op0)))))) (((hF767.1 19 rfl).trans (e686))) (((hF767.1 28 rfl).trans (e687))) (ec780) (((hF767.1 9 rfl).trans ((hF683.1 9 rfl).trans ((hF661.1 9 rfl).trans ((hF639.1 9 rfl).trans (e_ln)))))) (((hF767.1 29 rfl).trans ((hF683.1 29 rfl).trans ((hF661.1 29 rfl).trans ((hF639.1 29 rfl).trans (e_vi)))))) (by omega) (by omega) (by omega) (by omega) (by omega) (by omega) (by omega) (by omega) (by omega)
        · have _q : True := trivial
          exfalso
          omega
    · have _q := h655
      refine jx_ld (pc_q := 47) (l_q := [(0, .ref 66), (1, .int (i32 (lv)))]) (st_q := [.ref 66]) rfl (jl_aloadn rfl) ?_
      refine jx_ar (pc_q := 48) (st_q := [.int (i32 (1)), .ref 66]) rfl rfl rfl rfl ?_
      refine jx_ld (pc_q := 49) (l_q := [(0, .ref 66), (1, .int (i32 (lv)))]) (st_q := [.ref 66, .int (i32 (1)), .ref 66]) rfl (jl_aloadn rfl) ?_
      have b790 : (-3000 : Int) ≤ G634 12 ∧ G634 12 ≤ 3002 := hW638.1 12
      refine jr_get (pc_q := 52) (i := 12) (v := .int (i32 (G634 12))) rfl rfl (by decide) rfl rfl ?_
      refine jx_vr (pc_q := 55) (as := [.int (i32 (1)), .int (i32 (G634 12))]) (st := []) rfl rfl rfl rfl ⟨rfl, rfl, Nat.le_of_ble_eq_true rfl⟩ rfl rfl (c_fail (dd := d) (hd := by omega) (hW := hW638) (kind := 1) (place := G634 12) (fk := fk) (e_fk := show G634 16 = fk from ((hF639.1 16 rfl).trans (e_fk)))  (h_kind := ⟨(by decide), (by decide)⟩) (h_place := ⟨(Int.le_trans (by decide : (-2147483648 : Int) ≤ -3000) b790.1), (Int.le_trans b790.2 (by decide : (3002 : Int) ≤ 2147483647))⟩)  (p_0 := by omega) (p_1 := by omega)) (fun o V_q hq => ?_)
      obtain ⟨G791, A792, fk2_793, rfl, rfl, hW794, hF795, e796, p797, -⟩ := hq
      have hF799 := Fr_tr hF646 hF795 (Fr_sub (by decide)) (Fr_sub (by decide))
      have hP800 := Pf_f hP647 hF795 (by decide)
      have hS801 := Fx_f hS648 hF795 (by decide)
      have hV802 := Fx_f hV649 hF795 (by decide)
      have ec803 : ecn A792 (G791 31) = ec := (ecn_f (hF795.2 15 rfl) (hF795.1 31 rfl)).trans ec650
      have bfk2_793 : (0 : Int) ≤ fk2_793 ∧ fk2_793 ≤ 6 := e796 ▸ hW794.1 16
      refine .inl ⟨rfl, ?_⟩
      refine jx_ar (pc_q := 56) (st_q := [.int (i32 (0))]) rfl rfl rfl rfl ?_
      refine jx_rt (v := some (.int (i32 (0)))) rfl rfl rfl rfl rfl rfl ?_
      exact ⟨_, _, _, ln, at2_636, fk2_793, nd, sy, na, vi, A 3 (ln).toNat, ec, rfl, rfl, hW794, hF799, hP800, hS801, hV802, by omega, ((hF795.1 9 rfl).trans ((hF639.1 9 rfl).trans (e_ln))), ((hF795.1 10 rfl).trans (e640)), (e796), ((hF795.1 31 rfl).trans ((hF639.1 31 rfl).trans (e_nd))), ((hF795.1 19 rfl).trans ((hF639.1 19 rfl).trans (e_sy))), ((hF795.1 28 rfl).trans ((hF639.1 28 rfl).trans (e_na))), ((hF795.1 29 rfl).trans ((hF639.1 29 rfl).trans (e_vi))), (congrFun ((hF795.2 3 rfl).trans (hF639.2 3 rfl)) _), ec803, by omega, by omega, by omega, by omega, by omega, by omega, by omega, by omega, by omega, by omega, by first | exact Or.inl (⟨by omega, by omega⟩)⟩
  · have _q := h653
    refine jx_ld (pc_q := 12) (l_q := [(0, .ref 66), (1, .int (i32 (lv)))]) (st_q := [.ref 66]) rfl (jl_aloadn rfl) ?_
    refine jx_ar (pc_q := 14) (st_q := [.int (i32 (26)), .ref 66]) rfl rfl rfl rfl ?_
    refine jx_ar (pc_q := 15) (st_q := [.int (i32 (0)), .int (i32 (26)), .ref 66]) rfl rfl rfl rfl ?_
    refine jx_ar (pc_q := 16) (st_q := [.int (i32 (0)), .int (i32 (0)), .int (i32 (26)), .ref 66]) rfl rfl rfl rfl ?_
    refine jx_ar (pc_q := 17) (st_q := [.int (i32 (0)), .int (i32 (0)), .int (i32 (0)), .int (i32 (26)), .ref 66]) rfl rfl rfl rfl ?_
    refine jx_ar (pc_q := 18) (st_q := [.int (i32 (0)), .int (i32 (0)), .int (i32 (0)), .int (i32 (0)), .int (i32 (26)), .ref 66]) rfl rfl rfl rfl ?_
    refine jx_vr (pc_q := 21) (as := [.int (i32 (26)), .int (i32 (0)), .int (i32 (0)), .int (i32 (0)), .int (i32 (0))]) (st := []) rfl rfl rfl rfl ⟨rfl, rfl, Nat.le_of_ble_eq_true rfl⟩ rfl rfl (c_node_o (dd := d) (hd := by omega) (hW := hW638) (kind := 26) (a := 0) (b := 0) (c := 0) (e := 0) (nd := nd) (e_nd := show G634 31 = nd from ((hF639.1 31 rfl).trans (e_nd))) (ec := ec) (e_ec := show ecn A635 (G634 31) = ec from ec650) (sy := sy) (e_sy := show G634 19 = sy from ((hF639.1 19 rfl).trans (e_sy)))  (h_kind := ⟨(by decide), (by decide)⟩) (h_a := ⟨(by decide), (by decide)⟩) (h_b := ⟨(by decide), (by decide)⟩) (h_c := ⟨(by decide), (by decide)⟩) (h_e := ⟨(by decide), (by decide)⟩)  (p_0 := by omega) (p_1 := by omega) (p_2 := by omega)) (fun o V_q hq => ?_)
    obtain ⟨G804, A805, nd2_806, ec2_807, rfl, rfl, hW808, hF809, hQ810, e811, e812, p813, p814, p815, p816, -⟩ := hq
    have hF818 := Fr_tr hF646 hF809 (Fr_sub (by decide)) (Fr_sub (by decide))
    have hP819 := Pf_tr hP647 hQ810 (by omega)
    have hS820 := Fx_f hS648 hF809 (by decide)
    have hV821 := Fx_f hV649 hF809 (by decide)
    have bnd2_806 : (0 : Int) ≤ nd2_806 ∧ nd2_806 ≤ 6999 := e811 ▸ hW808.1 31
    refine .inr ⟨_, rfl, ?_⟩
    refine jx_ld (pc_q := 22) (l_q := jSto1 [(0, .ref 66), (1, .int (i32 (lv)))] 2 (.int (i32 (nd)))) (st_q := []) rfl rfl ?_
    obtain ⟨L822, eL822⟩ : ∃ q, q = jSto1 [(0, .ref 66), (1, .int (i32 (lv)))] 2 (.int (i32 (nd))) := ⟨_, rfl⟩
    rw [← eL822]
    have gL822_0 : jGet L822 0 = some (.ref 66) := eL822 ▸ jg_ne (by decide) (rfl : jGet [(0, .ref 66), (1, .int (i32 (lv)))] 0 = some (.ref 66)) rfl
    have gL822_1 : jGet L822 1 = some (.int (i32 (lv))) := eL822 ▸ jg_ne (by decide) (rfl : jGet [(0, .ref 66), (1, .int (i32 (lv)))] 1 = some (.int (i32 (lv)))) rfl
    have gL822_2 : jGet L822 2 = some (.int (i32 (nd))) := eL822 ▸ jg_eq
    refine jx_ld (pc_q := 23) (l_q := L822) (st_q := [.ref 66]) rfl (jl_aloadn gL822_0) ?_
    refine jx_vr (pc_q := 26) (as := []) (st := []) rfl rfl rfl rfl ⟨rfl, rfl, Nat.le_of_ble_eq_true rfl⟩ rfl rfl (c_endLine (dd := d) (hd := by omega) (hW := hW808)  (ln := ln) (e_ln := show G804 9 = ln from ((hF809.1 9 rfl).trans ((hF639.1 9 rfl).trans (e_ln)))) (li := li) (e_li := show G804 3 = li from ((hF809.1 3 rfl).trans ((hF639.1 3 rfl).trans (e_li)))) (fk := fk) (e_fk := show G804 16 = fk from ((hF809.1 16 rfl).trans ((hF639.1 16 rfl).trans (e_fk)))) (tk0 := tk2_637) (e_tk0 := show G804 11 = tk2_637 from ((hF809.1 11 rfl).trans (e641)))    (p_0 := by omega)) (fun o V_q hq => ?_)
    obtain ⟨G823, A824, ln2_825, fk2_826, rfl, rfl, hW827, hF828, e829, e830, q831⟩ := hq
    have hF832 := Fr_tr hF818 hF828 (Fr_sub (by decide)) (Fr_sub (by decide))
    have hP833 := Pf_f hP819 hF828 (by decide)
    have hS834 := Fx_f hS820 hF828 (by decide)
    have hV835 := Fx_f hV821 hF828 (by decide)
    have sf836 : ND A824 (nd) (26) (0) (0) (0) (0) (0) (0) := ND_ag (by omega) (Ag_fr hF828 (by decide)) p815
    have sf837 : NdM A824 (nd) (nd + 1) (sy) := NdM_f hF828 (by decide) p816
    have ec838 : ecn A824 (G823 31) = ec2_807 := (ecn_f (hF828.2 15 rfl) (hF828.1 31 rfl)).trans e812
    have bln2_825 : (0 : Int) ≤ ln2_825 ∧ ln2_825 ≤ 3000 := e829 ▸ hW827.1 9
    have bfk2_826 : (0 : Int) ≤ fk2_826 ∧ fk2_826 ≤ 6 := e830 ▸ hW827.1 16
    refine .inl ⟨rfl, ?_⟩
    rcases q831 with ⟨a839, a840, a841, a842, a843⟩ | ⟨a844, a845⟩
    · have _q : True := trivial
      have b846 : (0 : Int) ≤ A 3 (ln2_825).toNat ∧ A 3 (ln2_825).toNat ≤ 3000 := hW.2 3 _
      have lt847 : ln2_825 < li → le < A 3 (ln2_825).toNat := fun hh => LT_nx (LT_ext (((hF828.1 3 rfl).trans ((hF809.1 3 rfl).trans (hF639.1 3 rfl)))) (((hF828.2 3 rfl).trans ((hF809.2 3 rfl).trans (hF639.2 3 rfl)))) (((hF828.2 4 rfl).trans ((hF809.2 4 rfl).trans (hF639.2 4 rfl)))) i_LT) (show G823 3 = li from ((hF828.1 3 rfl).trans ((hF809.1 3 rfl).trans ((hF639.1 3 rfl).trans (e_li))))) (show A824 4 (ln).toNat = le from (congrFun ((hF828.2 4 rfl).trans ((hF809.2 4 rfl).trans (hF639.2 4 rfl))) _).trans (e_le)) (show A824 3 (ln2_825).toNat = A 3 (ln2_825).toNat from (congrFun ((hF828.2 3 rfl).trans ((hF809.2 3 rfl).trans (hF639.2 3 rfl))) _)) (show ln2_825 = ln + 1 by omega) (by omega) hh
      refine jx_ld (pc_q := 27) (l_q := L822) (st_q := [.ref 66]) rfl (jl_aloadn gL822_0) ?_
      refine jx_ld (pc_q := 28) (l_q := L822) (st_q := [.int (i32 (nd)), .ref 66]) rfl (jl_iloadn gL822_2) ?_
      refine jx_ld (pc_q := 29) (l_q := L822) (st_q := [.int (i32 (lv)), .int (i32 (nd)), .ref 66]) rfl (jl_iloadn gL822_1) ?_
      refine jx_ar (pc_q := 30) (st_q := [.int (i32 (0)), .int (i32 (lv)), .int (i32 (nd)), .ref 66]) rfl rfl rfl rfl ?_
      refine jx_hp (pc_q := 33) (st_q := [.int (i32 (100000)), .int (i32 (0)), .int (i32 (lv)), .int (i32 (nd)), .ref 66]) rfl rfl rfl rfl rfl rfl ?_
      refine jx_vr (pc_q := 36) (as := [.int (i32 (nd)), .int (i32 (lv)), .int (i32 (0)), .int (i32 (100000))]) (st := []) rfl rfl rfl rfl ⟨rfl, rfl, Nat.le_of_ble_eq_true rfl⟩ rfl rfl (c_readChildren_w (dd := d) (hP := hP) (zz := nd) (hd := by omega) (hW := hW827) (n := nd) (lv := lv) (least := 0) (mo := 100000) (kk := 26) (aa := 0) (bb := 0) (cc := 0) (de := 0) (xx := 0) (ln := ln2_825) (e_ln := show G823 9 = ln2_825 from (e829)) (li := li) (e_li := show G823 3 = li from ((hF828.1 3 rfl).trans ((hF809.1 3 rfl).trans ((hF639.1 3 rfl).trans (e_li))))) (at0 := at2_636) (e_at0 := show G823 10 = at2_636 from ((hF828.1 10 rfl).trans ((hF809.1 10 rfl).trans (e640)))) (fk := fk2_826) (e_fk := show G823 16 = fk2_826 from (e830)) (nd := nd2_806) (e_nd := show G823 31 = nd2_806 from ((hF828.1 31 rfl).trans (e811))) (sy := sy) (e_sy := show G823 19 = sy from ((hF828.1 19 rfl).trans ((hF809.1 19 rfl).trans ((hF639.1 19 rfl).trans (e_sy))))) (na := na) (e_na := show G823 28 = na from ((hF828.1 28 rfl).trans ((hF809.1 28 rfl).trans ((hF639.1 28 rfl).trans (e_na))))) (vi := vi) (e_vi := show G823 29 = vi from ((hF828.1 29 rfl).trans ((hF809.1 29 rfl).trans ((hF639.1 29 rfl).trans (e_vi))))) (lf := A 3 (ln2_825).toNat) (e_lf := show A824 3 (ln2_825).toNat = A 3 (ln2_825).toNat from (congrFun ((hF828.2 3 rfl).trans ((hF809.2 3 rfl).trans (hF639.2 3 rfl))) _)) (ec := ec2_807) (e_ec := show ecn A824 (G823 31) = ec2_807 from ec838) (i_LT := (LT_ext (((hF828.1 3 rfl).trans ((hF809.1 3 rfl).trans (hF639.1 3 rfl)))) (((hF828.2 3 rfl).trans ((hF809.2 3 rfl).trans (hF639.2 3 rfl)))) (((hF828.2 4 rfl).trans ((hF809.2 4 rfl).trans (hF639.2 4 rfl)))) i_LT)) (i_SV := (SV_fx i_SV e_vi (show G823 29 = vi from ((hF828.1 29 rfl).trans ((hF809.1 29 rfl).trans ((hF639.1 29 rfl).trans (e_vi))))) (by omega) hV835)) (i_PQ := (PQ_fx i_PQ hS834 (by omega) (hF832.2 29 rfl) (hF832.2 30 rfl))) (hvb := hvb) (h_n := ⟨(Int.le_trans (by decide : (-2147483648 : Int) ≤ 0) b_nd.1), (Int.le_trans b_nd.2 (by decide : (6999 : Int) ≤ 2147483647))⟩) (h_lv := ⟨(Int.le_trans (by decide : (-2147483648 : Int) ≤ -2147483648) h_lv.1), (Int.le_trans h_lv.2 (by decide : (2147483647 : Int) ≤ 2147483647))⟩) (h_least := ⟨(by decide), (by decide)⟩) (h_mo := ⟨(by decide), (by decide)⟩)  (p_0 := by omega) (p_1 := by omega) (p_2 := by omega) (p_3 := by omega) (p_4 := by omega) (p_5 := by omega) (p_6 := by omega) (p_7 := by omega) (p_8 := by omega) (p_9 := by omega) (p_10 := by omega) (p_11 := by omega) (p_12 := by omega) (p_13 := by omega) (p_14 := by omega) (p_15 := sf836) (p_16 := (NdO_w (NdO_m (r := nd) sf837) (by omega) (by omega) (by omega)))) (fun o V_q hq => ?_)
      obtain ⟨G848, A849, ln2_850, at2_851, fk2_852, nd2_853, sy2_854, na2_855, vi2_856, lf2_857, mm_858, f2_859, ec2_860, rfl, rfl, hW861, hF862, hQ863, hQ864, hQ865, hQ866, e867, e868, e869, e870, e871, e872, e873, e874, e875, e876, e877, p878, p879, p880, p881, p882, p883, p884, q885⟩ := hq
      have hF886 := Fr_tr hF832 hF862 (Fr_sub (by decide)) (Fr_sub (by decide))
      have hP887 := Pf_tr hP833 hQ863 (by omega)
      have hS888 := Fx_tr hS834 hQ865 (by omega)
      have hV889 := Fx_tr hV835 hQ866 (by omega)
      have sf890 : NdM A849 (nd + 1) (nd + 1) (sy) := NdM_px hQ864 (by omega) (by omega) (by omega) (NdM_w (lo := nd + 1) (hi := nd + 1) (sy := sy) sf837 (by omega) (by omega) (by omega))
      have bln2_850 : (0 : Int) ≤ ln2_850 ∧ ln2_850 ≤ 3000 := e867 ▸ hW861.1 9
      have bat2_851 : (0 : Int) ≤ at2_851 ∧ at2_851 ≤ 3002 := e868 ▸ hW861.1 10
      have bfk2_852 : (0 : Int) ≤ fk2_852 ∧ fk2_852 ≤ 6 := e869 ▸ hW861.1 16
      have bnd2_853 : (0 : Int) ≤ nd2_853 ∧ nd2_853 ≤ 6999 := e870 ▸ hW861.1 31
      have bsy2_854 : (0 : Int) ≤ sy2_854 ∧ sy2_854 ≤ 202 := e871 ▸ hW861.1 19
      have bna2_855 : (0 : Int) ≤ na2_855 ∧ na2_855 ≤ 200 := e872 ▸ hW861.1 28
      have bvi2_856 : (0 : Int) ≤ vi2_856 ∧ vi2_856 ≤ 202 := e873 ▸ hW861.1 29
      have blf2_857 : (0 : Int) ≤ lf2_857 ∧ lf2_857 ≤ 3000 := e874 ▸ hW861.2 3 _
      have bmm_858 : (-2147483648 : Int) ≤ mm_858 ∧ mm_858 ≤ 2147483647 := e875 ▸ hW861.2 18 _
      have bf2_859 : (-2147483648 : Int) ≤ f2_859 ∧ f2_859 ≤ 2147483647 := e876 ▸ hW861.2 21 _
      refine .inl ⟨rfl, ?_⟩
      rcases q885 with ⟨a891, a892⟩ | ⟨a893, a894, a895, a896, a897, a898, a899, a900, a901, a902⟩
      · have _q : True := trivial
        refine jx_ld (pc_q := 37) (l_q := L822) (st_q := [.int (i32 (nd))]) rfl (jl_iloadn gL822_2) ?_
        refine jx_rt (v := some (.int (i32 (nd)))) rfl rfl rfl rfl rfl rfl ?_
        exact ⟨_, _, _, ln2_850, at2_851, fk2_852, nd2_853, sy2_854, na2_855, vi2_856, lf2_857, ec2_860, rfl, rfl, hW861, hF886, hP887, hS888, hV889, by omega, (e867), (e868), (e869), (e870), (e871), (e872), (e873), (e874), e877, by omega, by omega, by omega, by omega, by omega, by omega, by omega, by omega, by omega, by omega, by first | exact Or.inl (⟨by omega, by omega⟩)⟩
      · have _q : True := trivial
        refine jx_ld (pc_q := 37) (l_q := L822) (st_q := [.int (i32 (nd))]) rfl (jl_iloadn gL822_2) ?_
        refine jx_rt (v := some (.int (i32 (nd)))) rfl rfl rfl rfl rfl rfl ?_
        exact ⟨_, _, _, ln2_850, at2_851, fk2_852, nd2_853, sy2_854, na2_855, vi2_856, lf2_857, ec2_860, rfl, rfl, hW861, hF886, hP887, hS888, hV889, by omega, (e867), (e868), (e869), (e870), (e871), (e872), (e873), (e874), e877, by omega, by omega, by omega, by omega, by omega, by omega, by omega, by omega, by omega, by omega, by first | exact Or.inr ((⟨by omega, by omega, by omega, by omega, by omega, by omega, by omega, (wS_seq (many := mm_858) a898 (RL_eq a899 (by omega) (by omega) (by omega) (by omega) (by omega))), (NX_nd a898), by omega, (NdM_w (NdM_app (sy := sy) (NdM_k a901 a898.1 (by decide) (by decide)) (NdM_app (sy := sy) sf890 a902 (by omega) (by omega) (by omega)) (by omega) (by omega) (by omega)) (by omega) (by omega) (by omega))⟩))⟩
    · have _q : True := trivial
      refine jx_ld (pc_q := 27) (l_q := L822) (st_q := [.ref 66]) rfl (jl_aloadn gL822_0) ?_
      refine jx_ld (pc_q := 28) (l_q := L822) (st_q := [.int (i32 (nd)), .ref 66]) rfl (jl_iloadn gL822_2) ?_
      refine jx_ld (pc_q := 29) (l_q := L822) (st_q := [.int (i32 (lv)), .int (i32 (nd)), .ref 66]) rfl (jl_iloadn gL822_1) ?_
      refine jx_ar (pc_q := 30) (st_q := [.int (i32 (0)), .int (i32 (lv)), .int (i32 (nd)), .ref 66]) rfl rfl rfl rfl ?_
      refine jx_hp (pc_q := 33) (st_q := [.int (i32 (100000)), .int (i32 (0)), .int (i32 (lv)), .int (i32 (nd)), .ref 66]) rfl rfl rfl rfl rfl rfl ?_
      refine jx_vr (pc_q := 36) (as := [.int (i32 (nd)), .int (i32 (lv)), .int (i32 (0)), .int (i32 (100000))]) (st := []) rfl rfl rfl rfl ⟨rfl, rfl, Nat.le_of_ble_eq_true rfl⟩ rfl rfl (c_readChildren_f (dd := d) (zz := nd) (hd := by omega) (hW := hW827) (n := nd) (lv := lv) (least := 0) (mo := 100000) (fk := fk2_826) (e_fk := show G823 16 = fk2_826 from (e830))  (h_n := ⟨(Int.le_trans (by decide : (-2147483648 : Int) ≤ 0) b_nd.1), (Int.le_trans b_nd.2 (by decide : (6999 : Int) ≤ 2147483647))⟩) (h_lv := ⟨(Int.le_trans (by decide : (-2147483648 : Int) ≤ -2147483648) h_lv.1), (Int.le_trans h_lv.2 (by decide : (2147483647 : Int) ≤ 2147483647))⟩) (h_least := ⟨(by decide), (by decide)⟩) (h_mo := ⟨(by decide), (by decide)⟩)  (p_0 := by omega) (p_1 := by omega) (p_2 := by omega) (p_3 := by omega)) (fun o V_q hq => ?_)
      obtain ⟨G903, A904, fk2_905, rfl, rfl, hW906, hF907, hQ908, e909, p910, -⟩ := hq
      have hF912 := Fr_tr hF832 hF907 (Fr_sub (by decide)) (Fr_sub (by decide))
      have hP913 := Pf_tr hP833 hQ908 (by omega)
      have hS914 := Fx_f hS834 hF907 (by decide)
      have hV915 := Fx_f hV835 hF907 (by decide)
      have ec916 : ecn A904 (G903 31) = ec2_807 := (ecn_f (hF907.2 15 rfl) (hF907.1 31 rfl)).trans ec838
      have bfk2_905 : (0 : Int) ≤ fk2_905 ∧ fk2_905 ≤ 6 := e909 ▸ hW906.1 16
      refine .inl ⟨rfl, ?_⟩
      refine jx_ld (pc_q := 37) (l_q := L822) (st_q := [.int (i32 (nd))]) rfl (jl_iloadn gL822_2) ?_
      refine jx_rt (v := some (.int (i32 (nd)))) rfl rfl rfl rfl rfl rfl ?_
      exact ⟨_, _, _, ln2_825, at2_636, fk2_905, nd2_806, sy, na, vi, A 3 (ln2_825).toNat, ec2_807, rfl, rfl, hW906, hF912, hP913, hS914, hV915, by omega, ((hF907.1 9 rfl).trans (e829)), ((hF907.1 10 rfl).trans ((hF828.1 10 rfl).trans ((hF809.1 10 rfl).trans (e640)))), (e909), ((hF907.1 31 rfl).trans ((hF828.1 31 rfl).trans (e811))), ((hF907.1 19 rfl).trans ((hF828.1 19 rfl).trans ((hF809.1 19 rfl).trans ((hF639.1 19 rfl).trans (e_sy))))), ((hF907.1 28 rfl).trans ((hF828.1 28 rfl).trans ((hF809.1 28 rfl).trans ((hF639.1 28 rfl).trans (e_na))))), ((hF907.1 29 rfl).trans ((hF828.1 29 rfl).trans ((hF809.1 29 rfl).trans ((hF639.1 29 rfl).trans (e_vi))))), (congrFun ((hF907.2 3 rfl).trans ((hF828.2 3 rfl).trans ((hF809.2 3 rfl).trans (hF639.2 3 rfl)))) _), ec916, by omega, by omega, by omega, by omega, by omega, by omega, by omega, by omega, by omega, by omega, by first | exact Or.inl (⟨by omega, by omega⟩)⟩
set_option maxRecDepth 20000 in
set_option maxHeartbeats 4000000 in
theorem c_readPar_w_at_132p {X : jX} {k : Nat} (hP : RPw X k) {d : Nat} {Vs : Nat → Prop} {sb pb : Int} (hvb : VB Vs sb) {c0 c1 : jC} {G : Nat → Int} {A : Nat → Nat → Int} {T : jH} {lv : Int} {ln li at0 fk nd sy na vi le op0 tk0 ec : Int} (hd : 8 * k + 82 ≤ d + 1) (hW : Wk G A) (e_ln : G 9 = ln) (e_li : G 3 = li) (e_at0 : G 10 = at0) (e_fk : G 16 = fk) (e_nd : G 31 = nd) (e_sy : G 19 = sy) (e_na : G 28 = na) (e_vi : G 29 = vi) (e_le : A 4 (ln).toNat = le) (e_op0 : G 15 = op0) (e_tk0 : G 11 = tk0) (e_ec : ecn A (G 31) = ec) (i_LT : LT G A) (i_SV : SV Vs sb G A) (i_PQ : PQ Vs sb pb G A) (h_lv : (-2147483648 : Int) ≤ lv ∧ lv ≤ 2147483647) (p_0 : 0 ≤ lv ∧ lv ≤ 15) (p_1 : 18 - lv ≤ ((k + 1 : Nat) : Int)) (p_2 : fk = 0) (p_3 : ln < li) (p_4 : at0 ≤ le) (p_5 : op0 = 0) (p_6 : nd ≤ 2 * at0 - tz tk0 + 30) (p_7 : sy ≤ na + 2) (p_8 : vi ≤ sy) (p_9 : sb = sy) (p_10 : 1 ≤ tk0) : ∀ (L : jL) (Gx : Nat → Int) (Ax : Nat → Nat → Int) (n at1 tk1 fk1 nd1 op1 sy1 na1 ec1 : Int), jGet L 0 = some (.ref 66) → jGet L 1 = some (.int (i32 (lv))) → jGet L 2 = some (.int (i32 n)) → Wk Gx Ax → Fr [9, 10, 11, 12, 13, 14, 15, 16, 17, 18, 19, 28, 29, 31] [6, 7, 8, 9, 10, 11, 12, 14, 15, 16, 17, 18, 19, 20, 21, 22, 23, 24, 28] G A Gx Ax → Pf nd A Ax → Fx sr (sy) A Ax → Fx [14] (vi) A Ax → Gx 10 = at1 → Gx 11 = tk1 → Gx 16 = fk1 → Gx 31 = nd1 → Gx 15 = op1 → Gx 19 = sy1 → Gx 28 = na1 → ecn Ax (Gx 31) = ec1 → Gx 9 = ln → Gx 29 = vi → ((-2147483648 : Int) ≤ n ∧ n ≤ 2147483647) → (1 ≤ fk1) → (at0 ≤ at1) → (at1 ≤ le) → (nd ≤ n ∧ n ≤ 6998 ∧ n < nd1) → (sy ≤ sy1) → (sy1 ≤ na1 + 2) → (0 ≤ op1 ∧ op1 ≤ 9) → (nd1 - nd ≤ 2 * at1 - 2 * at0 + 8) → wj X d jm299 (132, L, [], rV c0 c1 Gx Ax T) (fun o V_q => ∃ (G_q : Nat → Int) (A_q : Nat → Nat → Int) (r : Int) (ln2 : Int) (at2 : Int) (fk2 : Int) (nd2 : Int) (sy2 : Int) (na2 : Int) (vi2 : Int) (lf2 : Int) (ec2 : Int), V_q = rV c0 c1 G_q A_q T ∧ o = .inl (some (.int (i32 r))) ∧ Wk G_q A_q ∧ Fr [9, 10, 11, 12, 13, 14, 15, 16, 17, 18, 19, 28, 29, 31] [6, 7, 8, 9, 10, 11, 12, 14, 15, 16, 17, 18, 19, 20, 21, 22, 23, 24, 28] G A G_q A_q ∧ Pf nd A A_q ∧ Fx sr (sy) A A_q ∧ Fx [14] (vi) A A_q ∧ ((-2147483648 : Int) ≤ r ∧ r ≤ 2147483647) ∧ G_q 9 = ln2 ∧ G_q 10 = at2 ∧ G_q 16 = fk2 ∧ G_q 31 = nd2 ∧ G_q 19 = sy2 ∧ G_q 28 = na2 ∧ G_q 29 = vi2 ∧ A_q 3 (ln2).toNat = lf2 ∧ ecn A_q (G_q 31) = ec2 ∧ (at0 ≤ at2) ∧ (nd ≤ nd2) ∧ (sy ≤ sy2) ∧ (sy2 ≤ na2 + 2) ∧ (vi ≤ vi2) ∧ (vi2 ≤ vi + 1) ∧ (0 ≤ r) ∧ (r ≤ 6999) ∧ (ln ≤ ln2) ∧ (ln2 ≤ li) ∧ (((1 ≤ fk2) ∧ (nd2 - nd ≤ 2 * at2 - (2 * at0 - tz tk0) + 14)) ∨ ((fk2 = 0) ∧ (vi2 = vi) ∧ (ln < ln2) ∧ (nd2 - nd ≤ 2 * at2 - (2 * at0 - tz tk0)) ∧ (at2 < lf2 ∨ li ≤ ln2) ∧ (nd ≤ r) ∧ (r < nd2) ∧ (wSt A_q (sy2) pb (wP A_q (sy2) pb (k)) (Vs) (r) (nd) (nd2) (sy) (sy2)) ∧ (NX A_q (r)) ∧ (nd2 - nd + 5 * (ec2 - ec) ≤ 2 * at2 - (2 * at0 - tz tk0)) ∧ (NdO A_q (nd) (nd2) (sy) (r))))) := by
  have hF0 : Fr [9, 10, 11, 12, 13, 14, 15, 16, 17, 18, 19, 28, 29, 31] [6, 7, 8, 9, 10, 11, 12, 14, 15, 16, 17, 18, 19, 20, 21, 22, 23, 24, 28] G A G A := Fr_rf
  have hP0 : Pf nd A A := Pf_rf
  have hS0 : Fx sr (sy) A A := Fx_rf
  have hV0 : Fx [14] (vi) A A := Fx_rf
  have b_ln : (0 : Int) ≤ ln ∧ ln ≤ 3000 := e_ln ▸ hW.1 9
  have b_li : (0 : Int) ≤ li ∧ li ≤ 3000 := e_li ▸ hW.1 3
  have b_at0 : (0 : Int) ≤ at0 ∧ at0 ≤ 3002 := e_at0 ▸ hW.1 10
  have b_fk : (0 : Int) ≤ fk ∧ fk ≤ 6 := e_fk ▸ hW.1 16
  have b_nd : (0 : Int) ≤ nd ∧ nd ≤ 6999 := e_nd ▸ hW.1 31
  have b_sy : (0 : Int) ≤ sy ∧ sy ≤ 202 := e_sy ▸ hW.1 19
  have b_na : (0 : Int) ≤ na ∧ na ≤ 200 := e_na ▸ hW.1 28
  have b_vi : (0 : Int) ≤ vi ∧ vi ≤ 202 := e_vi ▸ hW.1 29
  have b_le : (0 : Int) ≤ le ∧ le ≤ 3000 := e_le ▸ hW.2 4 _
  have b_op0 : (-2147483648 : Int) ≤ op0 ∧ op0 ≤ 2147483647 := e_op0 ▸ hW.1 15
  have z_tk0 := tz_f tk0
  have b_tk0 : (0 : Int) ≤ tk0 ∧ tk0 ≤ 5 := e_tk0 ▸ hW.1 11
  intro L Gx Ax n at1 tk1 fk1 nd1 op1 sy1 na1 ec1 gL_0 gL_1 gL_2 hWx hFx hPx hSx hVx ex_at1 ex_tk1 ex_fk1 ex_nd1 ex_op1 ex_sy1 ex_na1 ex_ec1 fx_9 fx_29 rx_n iv_0 iv_1 iv_2 iv_3 iv_4 iv_5 iv_6 iv_7
  have b_at1 : (0 : Int) ≤ at1 ∧ at1 ≤ 3002 := ex_at1 ▸ hWx.1 10
  have z_tk1 := tz_f tk1
  have b_tk1 : (0 : Int) ≤ tk1 ∧ tk1 ≤ 5 := ex_tk1 ▸ hWx.1 11
  have b_fk1 : (0 : Int) ≤ fk1 ∧ fk1 ≤ 6 := ex_fk1 ▸ hWx.1 16
  have b_nd1 : (0 : Int) ≤ nd1 ∧ nd1 ≤ 6999 := ex_nd1 ▸ hWx.1 31
  have b_op1 : (-2147483648 : Int) ≤ op1 ∧ op1 ≤ 2147483647 := ex_op1 ▸ hWx.1 15
  have b_sy1 : (0 : Int) ≤ sy1 ∧ sy1 ≤ 202 := ex_sy1 ▸ hWx.1 19
  have b_na1 : (0 : Int) ≤ na1 ∧ na1 ≤ 200 := ex_na1 ▸ hWx.1 28
  refine jx_ld (pc_q := 133) (l_q := L) (st_q := [.ref 66]) rfl (jl_aloadn gL_0) ?_
  refine jx_vr (pc_q := 136) (as := []) (st := []) rfl rfl rfl rfl ⟨rfl, rfl, Nat.le_of_ble_eq_true rfl⟩ rfl rfl (c_endLine (dd := d) (hd := by omega) (hW := hWx)  (ln := ln) (e_ln := show Gx 9 = ln from (fx_9)) (li := li) (e_li := show Gx 3 = li from ((hFx.1 3 rfl).trans (e_li))) (fk := fk1) (e_fk := show Gx 16 = fk1 from (ex_fk1)) (tk0 := tk1) (e_tk0 := show Gx 11 = tk1 from (ex_tk1))    (p_0 := by omega)) (fun o V_q hq => ?_)
  obtain ⟨G1, A2, ln2_3, fk2_4, rfl, rfl, hW5, hF6, e7, e8, q9⟩ := hq
  have hF10 := Fr_tr hFx hF6 (Fr_sub (by decide)) (Fr_sub (by decide))
  have hP11 := Pf_f hPx hF6 (by decide)
  have hS12 := Fx_f hSx hF6 (by decide)
  have hV13 := Fx_f hVx hF6 (by decide)
  have ec14 : ecn A2 (G1 31) = ec1 := (ecn_f (hF6.2 15 rfl) (hF6.1 31 rfl)).trans ex_ec1
  have bln2_3 : (0 : Int) ≤ ln2_3 ∧ ln2_3 ≤ 3000 := e7 ▸ hW5.1 9
  have bfk2_4 : (0 : Int) ≤ fk2_4 ∧ fk2_4 ≤ 6 := e8 ▸ hW5.1 16
  refine .inl ⟨rfl, ?_⟩
  rcases q9 with ⟨a15, a16, a17, a18, a19⟩ | ⟨a20, a21⟩
  · have _q : True := trivial
    exfalso
    omega
  · have _q : True := trivial
    refine jx_ld (pc_q := 137) (l_q := L) (st_q := [.ref 66]) rfl (jl_aloadn gL_0) ?_
    refine jx_ld (pc_q := 138) (l_q := L) (st_q := [.int (i32 (n)), .ref 66]) rfl (jl_iloadn gL_2) ?_
    refine jx_ld (pc_q := 139) (l_q := L) (st_q := [.int (i32 (lv)), .int (i32 (n)), .ref 66]) rfl (jl_iloadn gL_1) ?_
    refine jx_vr (pc_q := 142) (as := [.int (i32 (n)), .int (i32 (lv))]) (st := []) rfl rfl rfl rfl ⟨rfl, rfl, Nat.le_of_ble_eq_true rfl⟩ rfl rfl (c_readIndexed_f (dd := d) (hd := by omega) (hW := hW5) (n := n) (lv := lv) (fk := fk2_4) (e_fk := show G1 16 = fk2_4 from (e8))  (h_n := ⟨(Int.le_trans (by decide : (-2147483648 : Int) ≤ -2147483648) rx_n.1), (Int.le_trans rx_n.2 (by decide : (2147483647 : Int) ≤ 2147483647))⟩) (h_lv := ⟨(Int.le_trans (by decide : (-2147483648 : Int) ≤ -2147483648) h_lv.1), (Int.le_trans h_lv.2 (by decide : (2147483647 : Int) ≤ 2147483647))⟩)  (p_0 := by omega)) (fun o V_q hq => ?_)
    obtain ⟨r22, rfl, rfl, b23, p24, -⟩ := hq
    refine .inr ⟨_, rfl, ?_⟩
    refine jx_rt (v := some (.int (i32 (r22)))) rfl rfl rfl rfl rfl rfl ?_
    exact ⟨_, _, _, ln2_3, at1, fk2_4, nd1, sy1, na1, vi, A 3 (ln2_3).toNat, ec1, rfl, rfl, hW5, hF10, hP11, hS12, hV13, by omega, (e7), ((hF6.1 10 rfl).trans (ex_at1)), (e8), ((hF6.1 31 rfl).trans (ex_nd1)), ((hF6.1 19 rfl).trans (ex_sy1)), ((hF6.1 28 rfl).trans (ex_na1)), ((hF6.1 29 rfl).trans (fx_29)), (congrFun ((hF6.2 3 rfl).trans (hFx.2 3 rfl)) _), ec14, by omega, by omega, by omega, by omega, by omega, by omega, by omega, by omega, by omega, by omega, by first | exact Or.inl (⟨by omega, by omega⟩)⟩
set_option maxRecDepth 20000 in
set_option maxHeartbeats 4000000 in
theorem c_readPar_w_at_119p {X : jX} {k : Nat} (hP : RPw X k) {d : Nat} {Vs : Nat → Prop} {sb pb : Int} (hvb : VB Vs sb) {c0 c1 : jC} {G : Nat → Int} {A : Nat → Nat → Int} {T : jH} {lv : Int} {ln li at0 fk nd sy na vi le op0 tk0 ec : Int} (hd : 8 * k + 82 ≤ d + 1) (hW : Wk G A) (e_ln : G 9 = ln) (e_li : G 3 = li) (e_at0 : G 10 = at0) (e_fk : G 16 = fk) (e_nd : G 31 = nd) (e_sy : G 19 = sy) (e_na : G 28 = na) (e_vi : G 29 = vi) (e_le : A 4 (ln).toNat = le) (e_op0 : G 15 = op0) (e_tk0 : G 11 = tk0) (e_ec : ecn A (G 31) = ec) (i_LT : LT G A) (i_SV : SV Vs sb G A) (i_PQ : PQ Vs sb pb G A) (h_lv : (-2147483648 : Int) ≤ lv ∧ lv ≤ 2147483647) (p_0 : 0 ≤ lv ∧ lv ≤ 15) (p_1 : 18 - lv ≤ ((k + 1 : Nat) : Int)) (p_2 : fk = 0) (p_3 : ln < li) (p_4 : at0 ≤ le) (p_5 : op0 = 0) (p_6 : nd ≤ 2 * at0 - tz tk0 + 30) (p_7 : sy ≤ na + 2) (p_8 : vi ≤ sy) (p_9 : sb = sy) (p_10 : 1 ≤ tk0) : ∀ (L : jL) (Gx : Nat → Int) (Ax : Nat → Nat → Int) (n at1 tk1 fk1 nd1 op1 sy1 na1 ec1 : Int), jGet L 0 = some (.ref 66) → jGet L 1 = some (.int (i32 (lv))) → jGet L 2 = some (.int (i32 n)) → Wk Gx Ax → Fr [9, 10, 11, 12, 13, 14, 15, 16, 17, 18, 19, 28, 29, 31] [6, 7, 8, 9, 10, 11, 12, 14, 15, 16, 17, 18, 19, 20, 21, 22, 23, 24, 28] G A Gx Ax → Pf nd A Ax → Fx sr (sy) A Ax → Fx [14] (vi) A Ax → Gx 10 = at1 → Gx 11 = tk1 → Gx 16 = fk1 → Gx 31 = nd1 → Gx 15 = op1 → Gx 19 = sy1 → Gx 28 = na1 → ecn Ax (Gx 31) = ec1 → Gx 9 = ln → Gx 29 = vi → ((-2147483648 : Int) ≤ n ∧ n ≤ 2147483647) → (1 ≤ fk1) → (at0 ≤ at1) → (at1 ≤ le) → (nd ≤ n ∧ n ≤ 6998 ∧ n < nd1) → (sy ≤ sy1) → (sy1 ≤ na1 + 2) → (0 ≤ op1 ∧ op1 ≤ 9) → (nd1 - nd ≤ 2 * at1 - 2 * at0 + 8) → wj X d jm299 (119, L, [], rV c0 c1 Gx Ax T) (fun o V_q => ∃ (G_q : Nat → Int) (A_q : Nat → Nat → Int) (r : Int) (ln2 : Int) (at2 : Int) (fk2 : Int) (nd2 : Int) (sy2 : Int) (na2 : Int) (vi2 : Int) (lf2 : Int) (ec2 : Int), V_q = rV c0 c1 G_q A_q T ∧ o = .inl (some (.int (i32 r))) ∧ Wk G_q A_q ∧ Fr [9, 10, 11, 12, 13, 14, 15, 16, 17, 18, 19, 28, 29, 31] [6, 7, 8, 9, 10, 11, 12, 14, 15, 16, 17, 18, 19, 20, 21, 22, 23, 24, 28] G A G_q A_q ∧ Pf nd A A_q ∧ Fx sr (sy) A A_q ∧ Fx [14] (vi) A A_q ∧ ((-2147483648 : Int) ≤ r ∧ r ≤ 2147483647) ∧ G_q 9 = ln2 ∧ G_q 10 = at2 ∧ G_q 16 = fk2 ∧ G_q 31 = nd2 ∧ G_q 19 = sy2 ∧ G_q 28 = na2 ∧ G_q 29 = vi2 ∧ A_q 3 (ln2).toNat = lf2 ∧ ecn A_q (G_q 31) = ec2 ∧ (at0 ≤ at2) ∧ (nd ≤ nd2) ∧ (sy ≤ sy2) ∧ (sy2 ≤ na2 + 2) ∧ (vi ≤ vi2) ∧ (vi2 ≤ vi + 1) ∧ (0 ≤ r) ∧ (r ≤ 6999) ∧ (ln ≤ ln2) ∧ (ln2 ≤ li) ∧ (((1 ≤ fk2) ∧ (nd2 - nd ≤ 2 * at2 - (2 * at0 - tz tk0) + 14)) ∨ ((fk2 = 0) ∧ (vi2 = vi) ∧ (ln < ln2) ∧ (nd2 - nd ≤ 2 * at2 - (2 * at0 - tz tk0)) ∧ (at2 < lf2 ∨ li ≤ ln2) ∧ (nd ≤ r) ∧ (r < nd2) ∧ (wSt A_q (sy2) pb (wP A_q (sy2) pb (k)) (Vs) (r) (nd) (nd2) (sy) (sy2)) ∧ (NX A_q (r)) ∧ (nd2 - nd + 5 * (ec2 - ec) ≤ 2 * at2 - (2 * at0 - tz tk0)) ∧ (NdO A_q (nd) (nd2) (sy) (r))))) := by
  have hF0 : Fr [9, 10, 11, 12, 13, 14, 15, 16, 17, 18, 19, 28, 29, 31] [6, 7, 8, 9, 10, 11, 12, 14, 15, 16, 17, 18, 19, 20, 21, 22, 23, 24, 28] G A G A := Fr_rf
  have hP0 : Pf nd A A := Pf_rf
  have hS0 : Fx sr (sy) A A := Fx_rf
  have hV0 : Fx [14] (vi) A A := Fx_rf
  have b_ln : (0 : Int) ≤ ln ∧ ln ≤ 3000 := e_ln ▸ hW.1 9
  have b_li : (0 : Int) ≤ li ∧ li ≤ 3000 := e_li ▸ hW.1 3
  have b_at0 : (0 : Int) ≤ at0 ∧ at0 ≤ 3002 := e_at0 ▸ hW.1 10
  have b_fk : (0 : Int) ≤ fk ∧ fk ≤ 6 := e_fk ▸ hW.1 16
  have b_nd : (0 : Int) ≤ nd ∧ nd ≤ 6999 := e_nd ▸ hW.1 31
  have b_sy : (0 : Int) ≤ sy ∧ sy ≤ 202 := e_sy ▸ hW.1 19
  have b_na : (0 : Int) ≤ na ∧ na ≤ 200 := e_na ▸ hW.1 28
  have b_vi : (0 : Int) ≤ vi ∧ vi ≤ 202 := e_vi ▸ hW.1 29
  have b_le : (0 : Int) ≤ le ∧ le ≤ 3000 := e_le ▸ hW.2 4 _
  have b_op0 : (-2147483648 : Int) ≤ op0 ∧ op0 ≤ 2147483647 := e_op0 ▸ hW.1 15
  have z_tk0 := tz_f tk0
  have b_tk0 : (0 : Int) ≤ tk0 ∧ tk0 ≤ 5 := e_tk0 ▸ hW.1 11
  intro L Gx Ax n at1 tk1 fk1 nd1 op1 sy1 na1 ec1 gL_0 gL_1 gL_2 hWx hFx hPx hSx hVx ex_at1 ex_tk1 ex_fk1 ex_nd1 ex_op1 ex_sy1 ex_na1 ex_ec1 fx_9 fx_29 rx_n iv_0 iv_1 iv_2 iv_3 iv_4 iv_5 iv_6 iv_7
  have b_at1 : (0 : Int) ≤ at1 ∧ at1 ≤ 3002 := ex_at1 ▸ hWx.1 10
  have z_tk1 := tz_f tk1
  have b_tk1 : (0 : Int) ≤ tk1 ∧ tk1 ≤ 5 := ex_tk1 ▸ hWx.1 11
  have b_fk1 : (0 : Int) ≤ fk1 ∧ fk1 ≤ 6 := ex_fk1 ▸ hWx.1 16
  have b_nd1 : (0 : Int) ≤ nd1 ∧ nd1 ≤ 6999 := ex_nd1 ▸ hWx.1 31
  have b_op1 : (-2147483648 : Int) ≤ op1 ∧ op1 ≤ 2147483647 := ex_op1 ▸ hWx.1 15
  have b_sy1 : (0 : Int) ≤ sy1 ∧ sy1 ≤ 202 := ex_sy1 ▸ hWx.1 19
  have b_na1 : (0 : Int) ≤ na1 ∧ na1 ≤ 200 := ex_na1 ▸ hWx.1 28
  refine jx_ld (pc_q := 120) (l_q := L) (st_q := [.ref 66]) rfl (jl_aloadn gL_0) ?_
  refine jr_get (pc_q := 123) (i := 37) (v := .ref 87) rfl rfl (by decide) rfl rfl ?_
  refine jx_ld (pc_q := 124) (l_q := L) (st_q := [.int (i32 (n)), .ref 87]) rfl (jl_iloadn gL_2) ?_
  refine jx_ld (pc_q := 125) (l_q := L) (st_q := [.ref 66, .int (i32 (n)), .ref 87]) rfl (jl_aloadn gL_0) ?_
  refine jx_ar (pc_q := 126) (st_q := [.int (i32 (1)), .ref 66, .int (i32 (n)), .ref 87]) rfl rfl rfl rfl ?_
  refine jx_ar (pc_q := 128) (st_q := [.int (i32 (8)), .int (i32 (1)), .ref 66, .int (i32 (n)), .ref 87]) rfl rfl rfl rfl ?_
  refine jx_vr (pc_q := 131) (as := [.int (i32 (1)), .int (i32 (8))]) (st := [.int (i32 (n)), .ref 87]) rfl rfl rfl rfl ⟨rfl, rfl, Nat.le_of_ble_eq_true rfl⟩ rfl rfl (c_needNumber (dd := d) (hd := by omega) (hW := hWx) (lo := 1) (hi := 8) (ln := ln) (e_ln := show Gx 9 = ln from (fx_9)) (le := le) (e_le := show Ax 4 (ln).toNat = le from (congrFun (hFx.2 4 rfl) _).trans (e_le)) (at0 := at1) (e_at0 := show Gx 10 = at1 from (ex_at1)) (fk := fk1) (e_fk := show Gx 16 = fk1 from (ex_fk1)) (tk0 := tk1) (e_tk0 := show Gx 11 = tk1 from (ex_tk1))  (h_lo := ⟨(by decide), (by decide)⟩) (h_hi := ⟨(by decide), (by decide)⟩)  (p_0 := by omega)) (fun o V_q hq => ?_)
  obtain ⟨G26, A27, r28, at2_29, tk2_30, fk2_31, rfl, rfl, hW32, hF33, b34, e35, e36, e37, p38, p39, q40⟩ := hq
  have hF41 := Fr_tr hFx hF33 (Fr_sub (by decide)) (Fr_sub (by decide))
  have hP42 := Pf_f hPx hF33 (by decide)
  have hS43 := Fx_f hSx hF33 (by decide)
  have hV44 := Fx_f hVx hF33 (by decide)
  have ec45 : ecn A27 (G26 31) = ec1 := (ecn_f (hF33.2 15 rfl) (hF33.1 31 rfl)).trans ex_ec1
  have bat2_29 : (0 : Int) ≤ at2_29 ∧ at2_29 ≤ 3002 := e35 ▸ hW32.1 10
  have ztk2_30 := tz_b tk2_30
  have btk2_30 : (0 : Int) ≤ tk2_30 ∧ tk2_30 ≤ 5 := e36 ▸ hW32.1 11
  have bfk2_31 : (0 : Int) ≤ fk2_31 ∧ fk2_31 ≤ 6 := e37 ▸ hW32.1 16
  refine .inr ⟨_, rfl, ?_⟩
  rcases q40 with ⟨a46, a47, a48, a49⟩ | ⟨a50, a51, a52, a53, a54⟩
  · have _q : True := trivial
    refine jr_st (pc_q := 132) (i := 20) (m := 7000) (z := n) (y := r28) rfl (by decide) rfl (by decide) (by omega) (by omega) rfl ?_
    have hW56 : Wk G26 (uA A27 20 (n).toNat (r28)) := Wk_a hW32 (show (-2147483648 : Int) ≤ r28 by omega) (show r28 ≤ (2147483647 : Int) by omega)
    have hF57 := Fr_a (z := r28) (k := 20) (n := (n).toNat) hF41 (by decide)
    obtain ⟨A55, eA55⟩ : ∃ q, q = uA A27 20 (n).toNat (r28) := ⟨_, rfl⟩
    rw [← eA55]
    rw [← eA55] at hW56 hF57
    have q58 : A55 20 (n).toNat = r28 := by rw [eA55]; exact uA_eq
    have hP59 : Pf nd A A55 := eA55 ▸ Pf_a hP42 (z := n) (by omega) (by omega)
    have hS60 : Fx sr (sy) A A55 := eA55 ▸ Fx_n hS43 rfl
    have hV61 : Fx [14] (vi) A A55 := eA55 ▸ Fx_n hV44 rfl
    have ec62 : ecn A55 (G26 31) = ec1 := (ecn_e ((congrFun eA55 15).trans (uA_ne (by decide)))).trans ec45
    have z63 := tz_f (tk2_30)
    exact c_readPar_w_at_132p (X := X) (k := k) (hP := hP) (d := d) (Vs := Vs) (sb := sb) (pb := pb) (hvb := hvb) (c0 := c0) (c1 := c1) (G := G) (A := A) (T := T) (lv := lv) (ln := ln) (li := li) (at0 := at0) (fk := fk) (nd := nd) (sy := sy) (na := na) (vi := vi) (le := le) (op0 := op0) (tk0 := tk0) (ec := ec) (hd := hd) (hW := hW) (e_ln := e_ln) (e_li := e_li) (e_at0 := e_at0) (e_fk := e_fk) (e_nd := e_nd) (e_sy := e_sy) (e_na := e_na) (e_vi := e_vi) (e_le := e_le) (e_op0 := e_op0) (e_tk0 := e_tk0) (e_ec := e_ec) (i_LT := i_LT) (i_SV := i_SV) (i_PQ := i_PQ) (h_lv := h_lv) (p_0 := p_0) (p_1 := p_1) (p_2 := p_2) (p_3 := p_3) (p_4 := p_4) (p_5 := p_5) (p_6 := p_6) (p_7 := p_7) (p_8 := p_8) (p_9 := p_9) (p_10 := p_10) L G26 A55 (n) (at2_29) (tk2_30) (fk2_31) (nd1) (op1) (sy1) (na1) (ec1) gL_0 gL_1 gL_2 hW56 hF57 hP59 hS60 hV61 ((e35)) ((e36)) ((e37)) (((hF33.1 31 rfl).trans (ex_nd1))) (((hF33.1 15 rfl).trans (ex_op1))) (((hF33.1 19 rfl).trans (ex_sy1))) (((hF33.1 28 rfl).trans (ex_na1))) (ec62) (((hF33.1 9 rfl).trans (fx_9))) (((hF33.1 29 rfl).trans (fx_29))) (by omega) (by omega) (by omega) (by omega) (by omega) (by omega) (by omega) (by omega) (by omega)
  · have _q : True := trivial
    exfalso
    omega
set_option maxRecDepth 20000 in
set_option maxHeartbeats 4000000 in
theorem c_readPar_w_at_109p {X : jX} {k : Nat} (hP : RPw X k) {d : Nat} {Vs : Nat → Prop} {sb pb : Int} (hvb : VB Vs sb) {c0 c1 : jC} {G : Nat → Int} {A : Nat → Nat → Int} {T : jH} {lv : Int} {ln li at0 fk nd sy na vi le op0 tk0 ec : Int} (hd : 8 * k + 82 ≤ d + 1) (hW : Wk G A) (e_ln : G 9 = ln) (e_li : G 3 = li) (e_at0 : G 10 = at0) (e_fk : G 16 = fk) (e_nd : G 31 = nd) (e_sy : G 19 = sy) (e_na : G 28 = na) (e_vi : G 29 = vi) (e_le : A 4 (ln).toNat = le) (e_op0 : G 15 = op0) (e_tk0 : G 11 = tk0) (e_ec : ecn A (G 31) = ec) (i_LT : LT G A) (i_SV : SV Vs sb G A) (i_PQ : PQ Vs sb pb G A) (h_lv : (-2147483648 : Int) ≤ lv ∧ lv ≤ 2147483647) (p_0 : 0 ≤ lv ∧ lv ≤ 15) (p_1 : 18 - lv ≤ ((k + 1 : Nat) : Int)) (p_2 : fk = 0) (p_3 : ln < li) (p_4 : at0 ≤ le) (p_5 : op0 = 0) (p_6 : nd ≤ 2 * at0 - tz tk0 + 30) (p_7 : sy ≤ na + 2) (p_8 : vi ≤ sy) (p_9 : sb = sy) (p_10 : 1 ≤ tk0) : ∀ (L : jL) (Gx : Nat → Int) (Ax : Nat → Nat → Int) (n at1 tk1 fk1 nd1 op1 sy1 na1 ec1 : Int), jGet L 0 = some (.ref 66) → jGet L 1 = some (.int (i32 (lv))) → jGet L 2 = some (.int (i32 n)) → Wk Gx Ax → Fr [9, 10, 11, 12, 13, 14, 15, 16, 17, 18, 19, 28, 29, 31] [6, 7, 8, 9, 10, 11, 12, 14, 15, 16, 17, 18, 19, 20, 21, 22, 23, 24, 28] G A Gx Ax → Pf nd A Ax → Fx sr (sy) A Ax → Fx [14] (vi) A Ax → Gx 10 = at1 → Gx 11 = tk1 → Gx 16 = fk1 → Gx 31 = nd1 → Gx 15 = op1 → Gx 19 = sy1 → Gx 28 = na1 → ecn Ax (Gx 31) = ec1 → Gx 9 = ln → Gx 29 = vi → ((-2147483648 : Int) ≤ n ∧ n ≤ 2147483647) → (1 ≤ fk1) → (at0 ≤ at1) → (at1 ≤ le) → (nd ≤ n ∧ n ≤ 6998 ∧ n < nd1) → (sy ≤ sy1) → (sy1 ≤ na1 + 2) → (0 ≤ op1 ∧ op1 ≤ 9) → (nd1 - nd ≤ 2 * at1 - 2 * at0 + 8) → wj X d jm299 (109, L, [], rV c0 c1 Gx Ax T) (fun o V_q => ∃ (G_q : Nat → Int) (A_q : Nat → Nat → Int) (r : Int) (ln2 : Int) (at2 : Int) (fk2 : Int) (nd2 : Int) (sy2 : Int) (na2 : Int) (vi2 : Int) (lf2 : Int) (ec2 : Int), V_q = rV c0 c1 G_q A_q T ∧ o = .inl (some (.int (i32 r))) ∧ Wk G_q A_q ∧ Fr [9, 10, 11, 12, 13, 14, 15, 16, 17, 18, 19, 28, 29, 31] [6, 7, 8, 9, 10, 11, 12, 14, 15, 16, 17, 18, 19, 20, 21, 22, 23, 24, 28] G A G_q A_q ∧ Pf nd A A_q ∧ Fx sr (sy) A A_q ∧ Fx [14] (vi) A A_q ∧ ((-2147483648 : Int) ≤ r ∧ r ≤ 2147483647) ∧ G_q 9 = ln2 ∧ G_q 10 = at2 ∧ G_q 16 = fk2 ∧ G_q 31 = nd2 ∧ G_q 19 = sy2 ∧ G_q 28 = na2 ∧ G_q 29 = vi2 ∧ A_q 3 (ln2).toNat = lf2 ∧ ecn A_q (G_q 31) = ec2 ∧ (at0 ≤ at2) ∧ (nd ≤ nd2) ∧ (sy ≤ sy2) ∧ (sy2 ≤ na2 + 2) ∧ (vi ≤ vi2) ∧ (vi2 ≤ vi + 1) ∧ (0 ≤ r) ∧ (r ≤ 6999) ∧ (ln ≤ ln2) ∧ (ln2 ≤ li) ∧ (((1 ≤ fk2) ∧ (nd2 - nd ≤ 2 * at2 - (2 * at0 - tz tk0) + 14)) ∨ ((fk2 = 0) ∧ (vi2 = vi) ∧ (ln < ln2) ∧ (nd2 - nd ≤ 2 * at2 - (2 * at0 - tz tk0)) ∧ (at2 < lf2 ∨ li ≤ ln2) ∧ (nd ≤ r) ∧ (r < nd2) ∧ (wSt A_q (sy2) pb (wP A_q (sy2) pb (k)) (Vs) (r) (nd) (nd2) (sy) (sy2)) ∧ (NX A_q (r)) ∧ (nd2 - nd + 5 * (ec2 - ec) ≤ 2 * at2 - (2 * at0 - tz tk0)) ∧ (NdO A_q (nd) (nd2) (sy) (r))))) := by
  have hF0 : Fr [9, 10, 11, 12, 13, 14, 15, 16, 17, 18, 19, 28, 29, 31] [6, 7, 8, 9, 10, 11, 12, 14, 15, 16, 17, 18, 19, 20, 21, 22, 23, 24, 28] G A G A := Fr_rf
  have hP0 : Pf nd A A := Pf_rf
  have hS0 : Fx sr (sy) A A := Fx_rf
  have hV0 : Fx [14] (vi) A A := Fx_rf
  have b_ln : (0 : Int) ≤ ln ∧ ln ≤ 3000 := e_ln ▸ hW.1 9
  have b_li : (0 : Int) ≤ li ∧ li ≤ 3000 := e_li ▸ hW.1 3
  have b_at0 : (0 : Int) ≤ at0 ∧ at0 ≤ 3002 := e_at0 ▸ hW.1 10
  have b_fk : (0 : Int) ≤ fk ∧ fk ≤ 6 := e_fk ▸ hW.1 16
  have b_nd : (0 : Int) ≤ nd ∧ nd ≤ 6999 := e_nd ▸ hW.1 31
  have b_sy : (0 : Int) ≤ sy ∧ sy ≤ 202 := e_sy ▸ hW.1 19
  have b_na : (0 : Int) ≤ na ∧ na ≤ 200 := e_na ▸ hW.1 28
  have b_vi : (0 : Int) ≤ vi ∧ vi ≤ 202 := e_vi ▸ hW.1 29
  have b_le : (0 : Int) ≤ le ∧ le ≤ 3000 := e_le ▸ hW.2 4 _
  have b_op0 : (-2147483648 : Int) ≤ op0 ∧ op0 ≤ 2147483647 := e_op0 ▸ hW.1 15
  have z_tk0 := tz_f tk0
  have b_tk0 : (0 : Int) ≤ tk0 ∧ tk0 ≤ 5 := e_tk0 ▸ hW.1 11
  intro L Gx Ax n at1 tk1 fk1 nd1 op1 sy1 na1 ec1 gL_0 gL_1 gL_2 hWx hFx hPx hSx hVx ex_at1 ex_tk1 ex_fk1 ex_nd1 ex_op1 ex_sy1 ex_na1 ex_ec1 fx_9 fx_29 rx_n iv_0 iv_1 iv_2 iv_3 iv_4 iv_5 iv_6 iv_7
  have b_at1 : (0 : Int) ≤ at1 ∧ at1 ≤ 3002 := ex_at1 ▸ hWx.1 10
  have z_tk1 := tz_f tk1
  have b_tk1 : (0 : Int) ≤ tk1 ∧ tk1 ≤ 5 := ex_tk1 ▸ hWx.1 11
  have b_fk1 : (0 : Int) ≤ fk1 ∧ fk1 ≤ 6 := ex_fk1 ▸ hWx.1 16
  have b_nd1 : (0 : Int) ≤ nd1 ∧ nd1 ≤ 6999 := ex_nd1 ▸ hWx.1 31
  have b_op1 : (-2147483648 : Int) ≤ op1 ∧ op1 ≤ 2147483647 := ex_op1 ▸ hWx.1 15
  have b_sy1 : (0 : Int) ≤ sy1 ∧ sy1 ≤ 202 := ex_sy1 ▸ hWx.1 19
  have b_na1 : (0 : Int) ≤ na1 ∧ na1 ≤ 200 := ex_na1 ▸ hWx.1 28
  refine jx_ld (pc_q := 110) (l_q := L) (st_q := [.ref 66]) rfl (jl_aloadn gL_0) ?_
  refine jx_ld (pc_q := 111) (l_q := L) (st_q := [.ref 66, .ref 66]) rfl (jl_aloadn gL_0) ?_
  refine jx_ar (pc_q := 113) (st_q := [.int (i32 (13)), .ref 66, .ref 66]) rfl rfl rfl rfl ?_
  have b64 : (-2147483648 : Int) ≤ Gx 13 ∧ Gx 13 ≤ 2147483647 := hWx.1 13
  refine jx_vr (pc_q := 116) (as := [.int (i32 (13))]) (st := [.ref 66]) rfl rfl rfl rfl ⟨rfl, rfl, Nat.le_of_ble_eq_true rfl⟩ rfl rfl (c_isKey (dd := d) (hd := by omega) (hW := hWx) (k := 13) (tk := tk1) (e_tk := show Gx 11 = tk1 from (ex_tk1)) (tn := Gx 13) (e_tn := show Gx 13 = Gx 13 from rfl)  (h_k := ⟨(by decide), (by decide)⟩)  ) (fun o V_q hq => ?_)
  obtain ⟨r65, rfl, rfl, b66, q67⟩ := hq
  refine .inr ⟨_, rfl, ?_⟩
  rcases q67 with ⟨rfl, a68, a69, a70⟩ | rfl
  · have _q : True := trivial
    refine jx_vr (pc_q := 119) (as := [.int (i32 (1))]) (st := []) rfl rfl rfl rfl ⟨rfl, rfl, Nat.le_of_ble_eq_true rfl⟩ rfl rfl (c_need (dd := d) (hd := by omega) (hW := hWx) (g := 1) (ln := ln) (e_ln := show Gx 9 = ln from (fx_9)) (le := le) (e_le := show Ax 4 (ln).toNat = le from (congrFun (hFx.2 4 rfl) _).trans (e_le)) (at0 := at1) (e_at0 := show Gx 10 = at1 from (ex_at1)) (fk := fk1) (e_fk := show Gx 16 = fk1 from (ex_fk1)) (tk0 := tk1) (e_tk0 := show Gx 11 = tk1 from (ex_tk1))  (h_g := ⟨(by decide), (by decide)⟩)  (p_0 := by omega)) (fun o V_q hq => ?_)
    obtain ⟨G71, A72, at2_73, tk2_74, fk2_75, rfl, rfl, hW76, hF77, e78, e79, e80, p81, p82, q83⟩ := hq
    have hF84 := Fr_tr hFx hF77 (Fr_sub (by decide)) (Fr_sub (by decide))
    have hP85 := Pf_f hPx hF77 (by decide)
    have hS86 := Fx_f hSx hF77 (by decide)
    have hV87 := Fx_f hVx hF77 (by decide)
    have ec88 : ecn A72 (G71 31) = ec1 := (ecn_f (hF77.2 15 rfl) (hF77.1 31 rfl)).trans ex_ec1
    have bat2_73 : (0 : Int) ≤ at2_73 ∧ at2_73 ≤ 3002 := e78 ▸ hW76.1 10
    have ztk2_74 := tz_b tk2_74
    have btk2_74 : (0 : Int) ≤ tk2_74 ∧ tk2_74 ≤ 5 := e79 ▸ hW76.1 11
    have bfk2_75 : (0 : Int) ≤ fk2_75 ∧ fk2_75 ≤ 6 := e80 ▸ hW76.1 16
    refine .inl ⟨rfl, ?_⟩
    rcases q83 with ⟨a89, a90, a91, a92⟩ | ⟨a93, a94, a95, a96⟩
    · have _q : True := trivial
      have z97 := tz_f (tk2_74)
      exact c_readPar_w_at_119p (X := X) (k := k) (hP := hP) (d := d) (Vs := Vs) (sb := sb) (pb := pb) (hvb := hvb) (c0 := c0) (c1 := c1) (G := G) (A := A) (T := T) (lv := lv) (ln := ln) (li := li) (at0 := at0) (fk := fk) (nd := nd) (sy := sy) (na := na) (vi := vi) (le := le) (op0 := op0) (tk0 := tk0) (ec := ec) (hd := hd) (hW := hW) (e_ln := e_ln) (e_li := e_li) (e_at0 := e_at0) (e_fk := e_fk) (e_nd := e_nd) (e_sy := e_sy) (e_na := e_na) (e_vi := e_vi) (e_le := e_le) (e_op0 := e_op0) (e_tk0 := e_tk0) (e_ec := e_ec) (i_LT := i_LT) (i_SV := i_SV) (i_PQ := i_PQ) (h_lv := h_lv) (p_0 := p_0) (p_1 := p_1) (p_2 := p_2) (p_3 := p_3) (p_4 := p_4) (p_5 := p_5) (p_6 := p_6) (p_7 := p_7) (p_8 := p_8) (p_9 := p_9) (p_10 := p_10) L G71 A72 (n) (at2_73) (tk2_74) (fk2_75) (nd1) (op1) (sy1) (na1) (ec1) gL_0 gL_1 gL_2 hW76 hF84 hP85 hS86 hV87 ((e78)) ((e79)) ((e80)) (((hF77.1 31 rfl).trans (ex_nd1))) (((hF77.1 15 rfl).trans (ex_op1))) (((hF77.1 19 rfl).trans (ex_sy1))) (((hF77.1 28 rfl).trans (ex_na1))) (ec88) (((hF77.1 9 rfl).trans (fx_9))) (((hF77.1 29 rfl).trans (fx_29))) (by omega) (by omega) (by omega) (by omega) (by omega) (by omega) (by omega) (by omega) (by omega)
    · have _q : True := trivial
      exfalso
      omega
  · have _q : True := trivial
    refine jx_vr (pc_q := 119) (as := [.int (i32 (0))]) (st := []) rfl rfl rfl rfl ⟨rfl, rfl, Nat.le_of_ble_eq_true rfl⟩ rfl rfl (c_need (dd := d) (hd := by omega) (hW := hWx) (g := 0) (ln := ln) (e_ln := show Gx 9 = ln from (fx_9)) (le := le) (e_le := show Ax 4 (ln).toNat = le from (congrFun (hFx.2 4 rfl) _).trans (e_le)) (at0 := at1) (e_at0 := show Gx 10 = at1 from (ex_at1)) (fk := fk1) (e_fk := show Gx 16 = fk1 from (ex_fk1)) (tk0 := tk1) (e_tk0 := show Gx 11 = tk1 from (ex_tk1))  (h_g := ⟨(by decide), (by decide)⟩)  (p_0 := by omega)) (fun o V_q hq => ?_)
    obtain ⟨G98, A99, at2_100, tk2_101, fk2_102, rfl, rfl, hW103, hF104, e105, e106, e107, p108, p109, q110⟩ := hq
    have hF111 := Fr_tr hFx hF104 (Fr_sub (by decide)) (Fr_sub (by decide))
    have hP112 := Pf_f hPx hF104 (by decide)
    have hS113 := Fx_f hSx hF104 (by decide)
    have hV114 := Fx_f hVx hF104 (by decide)
    have ec115 : ecn A99 (G98 31) = ec1 := (ecn_f (hF104.2 15 rfl) (hF104.1 31 rfl)).trans ex_ec1
    have bat2_100 : (0 : Int) ≤ at2_100 ∧ at2_100 ≤ 3002 := e105 ▸ hW103.1 10
    have ztk2_101 := tz_b tk2_101
    have btk2_101 : (0 : Int) ≤ tk2_101 ∧ tk2_101 ≤ 5 := e106 ▸ hW103.1 11
    have bfk2_102 : (0 : Int) ≤ fk2_102 ∧ fk2_102 ≤ 6 := e107 ▸ hW103.1 16
    refine .inl ⟨rfl, ?_⟩
    rcases q110 with ⟨a116, a117, a118, a119⟩ | ⟨a120, a121, a122, a123⟩
    · have _q : True := trivial
      have z124 := tz_f (tk2_101)
      exact c_readPar_w_at_119p (X := X) (k := k) (hP := hP) (d := d) (Vs := Vs) (sb := sb) (pb := pb) (hvb := hvb) (c0 := c0) (c1 := c1) (G := G) (A := A) (T := T) (lv := lv) (ln := ln) (li := li) (at0 := at0) (fk := fk) (nd := nd) (sy := sy) (na := na) (vi := vi) (le := le) (op0 := op0) (tk0 := tk0) (ec := ec) (hd := hd) (hW := hW) (e_ln := e_ln) (e_li := e_li) (e_at0 := e_at0) (e_fk := e_fk) (e_nd := e_nd) (e_sy := e_sy) (e_na := e_na) (e_vi := e_vi) (e_le := e_le) (e_op0 := e_op0) (e_tk0 := e_tk0) (e_ec := e_ec) (i_LT := i_LT) (i_SV := i_SV) (i_PQ := i_PQ) (h_lv := h_lv) (p_0 := p_0) (p_1 := p_1) (p_2 := p_2) (p_3 := p_3) (p_4 := p_4) (p_5 := p_5) (p_6 := p_6) (p_7 := p_7) (p_8 := p_8) (p_9 := p_9) (p_10 := p_10) L G98 A99 (n) (at2_100) (tk2_101) (fk2_102) (nd1) (op1) (sy1) (na1) (ec1) gL_0 gL_1 gL_2 hW103 hF111 hP112 hS113 hV114 ((e105)) ((e106)) ((e107)) (((hF104.1 31 rfl).trans (ex_nd1))) (((hF104.1 15 rfl).trans (ex_op1))) (((hF104.1 19 rfl).trans (ex_sy1))) (((hF104.1 28 rfl).trans (ex_na1))) (ec115) (((hF104.1 9 rfl).trans (fx_9))) (((hF104.1 29 rfl).trans (fx_29))) (by omega) (by omega) (by omega) (by omega) (by omega) (by omega) (by omega) (by omega) (by omega)
    · have _q : True := trivial
      exfalso
      omega
set_option maxRecDepth 20000 in
set_option maxHeartbeats 4000000 in
theorem c_readPar_w_at_109 {X : jX} {k : Nat} (hP : RPw X k) {d : Nat} {Vs : Nat → Prop} {sb pb : Int} (hvb : VB Vs sb) {c0 c1 : jC} {G : Nat → Int} {A : Nat → Nat → Int} {T : jH} {lv : Int} {ln li at0 fk nd sy na vi le op0 tk0 ec : Int} (hd : 8 * k + 82 ≤ d + 1) (hW : Wk G A) (e_ln : G 9 = ln) (e_li : G 3 = li) (e_at0 : G 10 = at0) (e_fk : G 16 = fk) (e_nd : G 31 = nd) (e_sy : G 19 = sy) (e_na : G 28 = na) (e_vi : G 29 = vi) (e_le : A 4 (ln).toNat = le) (e_op0 : G 15 = op0) (e_tk0 : G 11 = tk0) (e_ec : ecn A (G 31) = ec) (i_LT : LT G A) (i_SV : SV Vs sb G A) (i_PQ : PQ Vs sb pb G A) (h_lv : (-2147483648 : Int) ≤ lv ∧ lv ≤ 2147483647) (p_0 : 0 ≤ lv ∧ lv ≤ 15) (p_1 : 18 - lv ≤ ((k + 1 : Nat) : Int)) (p_2 : fk = 0) (p_3 : ln < li) (p_4 : at0 ≤ le) (p_5 : op0 = 0) (p_6 : nd ≤ 2 * at0 - tz tk0 + 30) (p_7 : sy ≤ na + 2) (p_8 : vi ≤ sy) (p_9 : sb = sy) (p_10 : 1 ≤ tk0) : ∀ (L : jL) (Gx : Nat → Int) (Ax : Nat → Nat → Int) (n at1 tk1 fk1 nd1 op1 sy1 na1 sa1 ka1 exc ec1 : Int), jGet L 0 = some (.ref 66) → jGet L 1 = some (.int (i32 (lv))) → jGet L 2 = some (.int (i32 n)) → Wk Gx Ax → Fr [9, 10, 11, 12, 13, 14, 15, 16, 17, 18, 19, 28, 29, 31] [6, 7, 8, 9, 10, 11, 12, 14, 15, 16, 17, 18, 19, 20, 21, 22, 23, 24, 28] G A Gx Ax → Pf nd A Ax → Fx sr (sy) A Ax → Fx [14] (vi) A Ax → Gx 10 = at1 → Gx 11 = tk1 → Gx 16 = fk1 → Gx 31 = nd1 → Gx 15 = op1 → Gx 19 = sy1 → Gx 28 = na1 → Ax 17 (n).toNat = sa1 → Ax 7 (sa1).toNat = ka1 → Ax 19 (n).toNat = exc → ecn Ax (Gx 31) = ec1 → Gx 9 = ln → Gx 29 = vi → ((-2147483648 : Int) ≤ n ∧ n ≤ 2147483647) → (fk1 = 0) → (at0 ≤ at1) → (at1 ≤ le) → (n = nd) → (n ≤ 6998 ∧ n < nd1) → (sy1 = sy + 1) → (sa1 = sy) → (sy1 ≤ na1 + 2) → (op1 = 0) → (nd1 - nd ≤ (2 * at1 - tz tk1) - (2 * at0 - tz tk0)) → (ka1 = 10) → (ND Ax (n) (29) (sa1) (0) (exc) (0) (0) (0)) → (0 ≤ exc) → (nd1 = n + 1) → (nd1 - nd + 5 * (ec1 - ec) ≤ (2 * at1 - tz tk1) - (2 * at0 - tz tk0)) → (NdO Ax (nd) (nd1) (sy) (n)) → wj X d jm299 (109, L, [], rV c0 c1 Gx Ax T) (fun o V_q => ∃ (G_q : Nat → Int) (A_q : Nat → Nat → Int) (r : Int) (ln2 : Int) (at2 : Int) (fk2 : Int) (nd2 : Int) (sy2 : Int) (na2 : Int) (vi2 : Int) (lf2 : Int) (ec2 : Int), V_q = rV c0 c1 G_q A_q T ∧ o = .inl (some (.int (i32 r))) ∧ Wk G_q A_q ∧ Fr [9, 10, 11, 12, 13, 14, 15, 16, 17, 18, 19, 28, 29, 31] [6, 7, 8, 9, 10, 11, 12, 14, 15, 16, 17, 18, 19, 20, 21, 22, 23, 24, 28] G A G_q A_q ∧ Pf nd A A_q ∧ Fx sr (sy) A A_q ∧ Fx [14] (vi) A A_q ∧ ((-2147483648 : Int) ≤ r ∧ r ≤ 2147483647) ∧ G_q 9 = ln2 ∧ G_q 10 = at2 ∧ G_q 16 = fk2 ∧ G_q 31 = nd2 ∧ G_q 19 = sy2 ∧ G_q 28 = na2 ∧ G_q 29 = vi2 ∧ A_q 3 (ln2).toNat = lf2 ∧ ecn A_q (G_q 31) = ec2 ∧ (at0 ≤ at2) ∧ (nd ≤ nd2) ∧ (sy ≤ sy2) ∧ (sy2 ≤ na2 + 2) ∧ (vi ≤ vi2) ∧ (vi2 ≤ vi + 1) ∧ (0 ≤ r) ∧ (r ≤ 6999) ∧ (ln ≤ ln2) ∧ (ln2 ≤ li) ∧ (((1 ≤ fk2) ∧ (nd2 - nd ≤ 2 * at2 - (2 * at0 - tz tk0) + 14)) ∨ ((fk2 = 0) ∧ (vi2 = vi) ∧ (ln < ln2) ∧ (nd2 - nd ≤ 2 * at2 - (2 * at0 - tz tk0)) ∧ (at2 < lf2 ∨ li ≤ ln2) ∧ (nd ≤ r) ∧ (r < nd2) ∧ (wSt A_q (sy2) pb (wP A_q (sy2) pb (k)) (Vs) (r) (nd) (nd2) (sy) (sy2)) ∧ (NX A_q (r)) ∧ (nd2 - nd + 5 * (ec2 - ec) ≤ 2 * at2 - (2 * at0 - tz tk0)) ∧ (NdO A_q (nd) (nd2) (sy) (r))))) := by
  have hF0 : Fr [9, 10, 11, 12, 13, 14, 15, 16, 17, 18, 19, 28, 29, 31] [6, 7, 8, 9, 10, 11, 12, 14, 15, 16, 17, 18, 19, 20, 21, 22, 23, 24, 28] G A G A := Fr_rf
  have hP0 : Pf nd A A := Pf_rf
  have hS0 : Fx sr (sy) A A := Fx_rf
  have hV0 : Fx [14] (vi) A A := Fx_rf
  have b_ln : (0 : Int) ≤ ln ∧ ln ≤ 3000 := e_ln ▸ hW.1 9
  have b_li : (0 : Int) ≤ li ∧ li ≤ 3000 := e_li ▸ hW.1 3
  have b_at0 : (0 : Int) ≤ at0 ∧ at0 ≤ 3002 := e_at0 ▸ hW.1 10
  have b_fk : (0 : Int) ≤ fk ∧ fk ≤ 6 := e_fk ▸ hW.1 16
  have b_nd : (0 : Int) ≤ nd ∧ nd ≤ 6999 := e_nd ▸ hW.1 31
  have b_sy : (0 : Int) ≤ sy ∧ sy ≤ 202 := e_sy ▸ hW.1 19
  have b_na : (0 : Int) ≤ na ∧ na ≤ 200 := e_na ▸ hW.1 28
  have b_vi : (0 : Int) ≤ vi ∧ vi ≤ 202 := e_vi ▸ hW.1 29
  have b_le : (0 : Int) ≤ le ∧ le ≤ 3000 := e_le ▸ hW.2 4 _
  have b_op0 : (-2147483648 : Int) ≤ op0 ∧ op0 ≤ 2147483647 := e_op0 ▸ hW.1 15
  have z_tk0 := tz_f tk0
  have b_tk0 : (0 : Int) ≤ tk0 ∧ tk0 ≤ 5 := e_tk0 ▸ hW.1 11
  intro L Gx Ax n at1 tk1 fk1 nd1 op1 sy1 na1 sa1 ka1 exc ec1 gL_0 gL_1 gL_2 hWx hFx hPx hSx hVx ex_at1 ex_tk1 ex_fk1 ex_nd1 ex_op1 ex_sy1 ex_na1 ex_sa1 ex_ka1 ex_exc ex_ec1 fx_9 fx_29 rx_n iv_0 iv_1 iv_2 iv_3 iv_4 iv_5 iv_6 iv_7 iv_8 iv_9 iv_10 iv_11 iv_12 iv_13 iv_14 iv_15
  have b_at1 : (0 : Int) ≤ at1 ∧ at1 ≤ 3002 := ex_at1 ▸ hWx.1 10
  have z_tk1 := tz_f tk1
  have b_tk1 : (0 : Int) ≤ tk1 ∧ tk1 ≤ 5 := ex_tk1 ▸ hWx.1 11
  have b_fk1 : (0 : Int) ≤ fk1 ∧ fk1 ≤ 6 := ex_fk1 ▸ hWx.1 16
  have b_nd1 : (0 : Int) ≤ nd1 ∧ nd1 ≤ 6999 := ex_nd1 ▸ hWx.1 31
  have b_op1 : (-2147483648 : Int) ≤ op1 ∧ op1 ≤ 2147483647 := ex_op1 ▸ hWx.1 15
  have b_sy1 : (0 : Int) ≤ sy1 ∧ sy1 ≤ 202 := ex_sy1 ▸ hWx.1 19
  have b_na1 : (0 : Int) ≤ na1 ∧ na1 ≤ 200 := ex_na1 ▸ hWx.1 28
  refine jx_ld (pc_q := 110) (l_q := L) (st_q := [.ref 66]) rfl (jl_aloadn gL_0) ?_
  refine jx_ld (pc_q := 111) (l_q := L) (st_q := [.ref 66, .ref 66]) rfl (jl_aloadn gL_0) ?_
  refine jx_ar (pc_q := 113) (st_q := [.int (i32 (13)), .ref 66, .ref 66]) rfl rfl rfl rfl ?_
  have b125 : (-2147483648 : Int) ≤ Gx 13 ∧ Gx 13 ≤ 2147483647 := hWx.1 13
  refine jx_vr (pc_q := 116) (as := [.int (i32 (13))]) (st := [.ref 66]) rfl rfl rfl rfl ⟨rfl, rfl, Nat.le_of_ble_eq_true rfl⟩ rfl rfl (c_isKey (dd := d) (hd := by omega) (hW := hWx) (k := 13) (tk := tk1) (e_tk := show Gx 11 = tk1 from (ex_tk1)) (tn := Gx 13) (e_tn := show Gx 13 = Gx 13 from rfl)  (h_k := ⟨(by decide), (by decide)⟩)  ) (fun o V_q hq => ?_)
  obtain ⟨r126, rfl, rfl, b127, q128⟩ := hq
  refine .inr ⟨_, rfl, ?_⟩
  rcases q128 with ⟨rfl, a129, a130, a131⟩ | rfl
  · have _q : True := trivial
    refine jx_vr (pc_q := 119) (as := [.int (i32 (1))]) (st := []) rfl rfl rfl rfl ⟨rfl, rfl, Nat.le_of_ble_eq_true rfl⟩ rfl rfl (c_need (dd := d) (hd := by omega) (hW := hWx) (g := 1) (ln := ln) (e_ln := show Gx 9 = ln from (fx_9)) (le := le) (e_le := show Ax 4 (ln).toNat = le from (congrFun (hFx.2 4 rfl) _).trans (e_le)) (at0 := at1) (e_at0 := show Gx 10 = at1 from (ex_at1)) (fk := fk1) (e_fk := show Gx 16 = fk1 from (ex_fk1)) (tk0 := tk1) (e_tk0 := show Gx 11 = tk1 from (ex_tk1))  (h_g := ⟨(by decide), (by decide)⟩)  (p_0 := by omega)) (fun o V_q hq => ?_)
    obtain ⟨G132, A133, at2_134, tk2_135, fk2_136, rfl, rfl, hW137, hF138, e139, e140, e141, p142, p143, q144⟩ := hq
    have hF145 := Fr_tr hFx hF138 (Fr_sub (by decide)) (Fr_sub (by decide))
    have hP146 := Pf_f hPx hF138 (by decide)
    have hS147 := Fx_f hSx hF138 (by decide)
    have hV148 := Fx_f hVx hF138 (by decide)
    have sf149 : ND A133 (n) (29) (sa1) (0) (exc) (0) (0) (0) := ND_ag (by omega) (Ag_fr hF138 (by decide)) iv_11
    have sf150 : NdO A133 (nd) (nd1) (sy) (n) := NdO_f hF138 (by decide) iv_15
    have ec151 : ecn A133 (G132 31) = ec1 := (ecn_f (hF138.2 15 rfl) (hF138.1 31 rfl)).trans ex_ec1
    have bat2_134 : (0 : Int) ≤ at2_134 ∧ at2_134 ≤ 3002 := e139 ▸ hW137.1 10
    have ztk2_135 := tz_b tk2_135
    have btk2_135 : (0 : Int) ≤ tk2_135 ∧ tk2_135 ≤ 5 := e140 ▸ hW137.1 11
    have bfk2_136 : (0 : Int) ≤ fk2_136 ∧ fk2_136 ≤ 6 := e141 ▸ hW137.1 16
    refine .inl ⟨rfl, ?_⟩
    rcases q144 with ⟨a152, a153, a154, a155⟩ | ⟨a156, a157, a158, a159⟩
    · have _q : True := trivial
      have z160 := tz_f (tk2_135)
      exact c_readPar_w_at_119p (X := X) (k := k) (hP := hP) (d := d) (Vs := Vs) (sb := sb) (pb := pb) (hvb := hvb) (c0 := c0) (c1 := c1) (G := G) (A := A) (T := T) (lv := lv) (ln := ln) (li := li) (at0 := at0) (fk := fk) (nd := nd) (sy := sy) (na := na) (vi := vi) (le := le) (op0 := op0) (tk0 := tk0) (ec := ec) (hd := hd) (hW := hW) (e_ln := e_ln) (e_li := e_li) (e_at0 := e_at0) (e_fk := e_fk) (e_nd := e_nd) (e_sy := e_sy) (e_na := e_na) (e_vi := e_vi) (e_le := e_le) (e_op0 := e_op0) (e_tk0 := e_tk0) (e_ec := e_ec) (i_LT := i_LT) (i_SV := i_SV) (i_PQ := i_PQ) (h_lv := h_lv) (p_0 := p_0) (p_1 := p_1) (p_2 := p_2) (p_3 := p_3) (p_4 := p_4) (p_5 := p_5) (p_6 := p_6) (p_7 := p_7) (p_8 := p_8) (p_9 := p_9) (p_10 := p_10) L G132 A133 (n) (at2_134) (tk2_135) (fk2_136) (nd1) (op1) (sy1) (na1) (ec1) gL_0 gL_1 gL_2 hW137 hF145 hP146 hS147 hV148 ((e139)) ((e140)) ((e141)) (((hF138.1 31 rfl).trans (ex_nd1))) (((hF138.1 15 rfl).trans (ex_op1))) (((hF138.1 19 rfl).trans (ex_sy1))) (((hF138.1 28 rfl).trans (ex_na1))) (ec151) (((hF138.1 9 rfl).trans (fx_9))) (((hF138.1 29 rfl).trans (fx_29))) (by omega) (by omega) (by omega) (by omega) (by omega) (by omega) (by omega) (by omega) (by omega)
    · have _q : True := trivial
      have pz161 : at1 + tz tk2_135 ≤ at2_134 := by omega
      refine jx_ld (pc_q := 120) (l_q := L) (st_q := [.ref 66]) rfl (jl_aloadn gL_0) ?_
      refine jr_get (pc_q := 123) (i := 37) (v := .ref 87) rfl rfl (by decide) rfl rfl ?_
      refine jx_ld (pc_q := 124) (l_q := L) (st_q := [.int (i32 (n)), .ref 87]) rfl (jl_iloadn gL_2) ?_
      refine jx_ld (pc_q := 125) (l_q := L) (st_q := [.ref 66, .int (i32 (n)), .ref 87]) rfl (jl_aloadn gL_0) ?_
      refine jx_ar (pc_q := 126) (st_q := [.int (i32 (1)), .ref 66, .int (i32 (n)), .ref 87]) rfl rfl rfl rfl ?_
      refine jx_ar (pc_q := 128) (st_q := [.int (i32 (8)), .int (i32 (1)), .ref 66, .int (i32 (n)), .ref 87]) rfl rfl rfl rfl ?_
      refine jx_vr (pc_q := 131) (as := [.int (i32 (1)), .int (i32 (8))]) (st := [.int (i32 (n)), .ref 87]) rfl rfl rfl rfl ⟨rfl, rfl, Nat.le_of_ble_eq_true rfl⟩ rfl rfl (c_needNumber (dd := d) (hd := by omega) (hW := hW137) (lo := 1) (hi := 8) (ln := ln) (e_ln := show G132 9 = ln from ((hF138.1 9 rfl).trans (fx_9))) (le := le) (e_le := show A133 4 (ln).toNat = le from (congrFun ((hF138.2 4 rfl).trans (hFx.2 4 rfl)) _).trans (e_le)) (at0 := at2_134) (e_at0 := show G132 10 = at2_134 from (e139)) (fk := fk2_136) (e_fk := show G132 16 = fk2_136 from (e141)) (tk0 := tk2_135) (e_tk0 := show G132 11 = tk2_135 from (e140))  (h_lo := ⟨(by decide), (by decide)⟩) (h_hi := ⟨(by decide), (by decide)⟩)  (p_0 := by omega)) (fun o V_q hq => ?_)
      obtain ⟨G162, A163, r164, at2_165, tk2_166, fk2_167, rfl, rfl, hW168, hF169, b170, e171, e172, e173, p174, p175, q176⟩ := hq
      have hF177 := Fr_tr hF145 hF169 (Fr_sub (by decide)) (Fr_sub (by decide))
      have hP178 := Pf_f hP146 hF169 (by decide)
      have hS179 := Fx_f hS147 hF169 (by decide)
      have hV180 := Fx_f hV148 hF169 (by decide)
      have sf181 : ND A163 (n) (29) (sa1) (0) (exc) (0) (0) (0) := ND_ag (by omega) (Ag_fr hF169 (by decide)) sf149
      have sf182 : NdO A163 (nd) (nd1) (sy) (n) := NdO_f hF169 (by decide) sf150
      have ec183 : ecn A163 (G162 31) = ec1 := (ecn_f (hF169.2 15 rfl) (hF169.1 31 rfl)).trans ec151
      have bat2_165 : (0 : Int) ≤ at2_165 ∧ at2_165 ≤ 3002 := e171 ▸ hW168.1 10
      have ztk2_166 := tz_b tk2_166
      have btk2_166 : (0 : Int) ≤ tk2_166 ∧ tk2_166 ≤ 5 := e172 ▸ hW168.1 11
      have bfk2_167 : (0 : Int) ≤ fk2_167 ∧ fk2_167 ≤ 6 := e173 ▸ hW168.1 16
      refine .inr ⟨_, rfl, ?_⟩
      rcases q176 with ⟨a184, a185, a186, a187⟩ | ⟨a188, a189, a190, a191, a192⟩
      · have _q : True := trivial
        refine jr_st (pc_q := 132) (i := 20) (m := 7000) (z := n) (y := r164) rfl (by decide) rfl (by decide) (by omega) (by omega) rfl ?_
        have hW194 : Wk G162 (uA A163 20 (n).toNat (r164)) := Wk_a hW168 (show (-2147483648 : Int) ≤ r164 by omega) (show r164 ≤ (2147483647 : Int) by omega)
        have hF195 := Fr_a (z := r164) (k := 20) (n := (n).toNat) hF177 (by decide)
        obtain ⟨A193, eA193⟩ : ∃ q, q = uA A163 20 (n).toNat (r164) := ⟨_, rfl⟩
        rw [← eA193]
        rw [← eA193] at hW194 hF195
        have q196 : A193 20 (n).toNat = r164 := by rw [eA193]; exact uA_eq
        have hP197 : Pf nd A A193 := eA193 ▸ Pf_a hP178 (z := n) (by omega) (by omega)
        have hS198 : Fx sr (sy) A A193 := eA193 ▸ Fx_n hS179 rfl
        have hV199 : Fx [14] (vi) A A193 := eA193 ▸ Fx_n hV180 rfl
        have sf200 : ND A193 (n) (29) (sa1) (0) (exc) (r164) (0) (0) := ND_d eA193 sf181
        have sf201 : NdO A193 (nd) (nd1) (sy) (n) := NdO_st eA193 (by decide) sf182
        have ec202 : ecn A193 (G162 31) = ec1 := (ecn_e ((congrFun eA193 15).trans (uA_ne (by decide)))).trans ec183
        have z203 := tz_f (tk2_166)
        exact c_readPar_w_at_132p (X := X) (k := k) (hP := hP) (d := d) (Vs := Vs) (sb := sb) (pb := pb) (hvb := hvb) (c0 := c0) (c1 := c1) (G := G) (A := A) (T := T) (lv := lv) (ln := ln) (li := li) (at0 := at0) (fk := fk) (nd := nd) (sy := sy) (na := na) (vi := vi) (le := le) (op0 := op0) (tk0 := tk0) (ec := ec) (hd := hd) (hW := hW) (e_ln := e_ln) (e_li := e_li) (e_at0 := e_at0) (e_fk := e_fk) (e_nd := e_nd) (e_sy := e_sy) (e_na := e_na) (e_vi := e_vi) (e_le := e_le) (e_op0 := e_op0) (e_tk0 := e_tk0) (e_ec := e_ec) (i_LT := i_LT) (i_SV := i_SV) (i_PQ := i_PQ) (h_lv := h_lv) (p_0 := p_0) (p_1 := p_1) (p_2 := p_2) (p_3 := p_3) (p_4 := p_4) (p_5 := p_5) (p_6 := p_6) (p_7 := p_7) (p_8 := p_8) (p_9 := p_9) (p_10 := p_10) L G162 A193 (n) (at2_165) (tk2_166) (fk2_167) (nd1) (op1) (sy1) (na1) (ec1) gL_0 gL_1 gL_2 hW194 hF195 hP197 hS198 hV199 ((e171)) ((e172)) ((e173)) (((hF169.1 31 rfl).trans ((hF138.1 31 rfl).trans (ex_nd1)))) (((hF169.1 15 rfl).trans ((hF138.1 15 rfl).trans (ex_op1)))) (((hF169.1 19 rfl).trans ((hF138.1 19 rfl).trans (ex_sy1)))) (((hF169.1 28 rfl).trans ((hF138.1 28 rfl).trans (ex_na1)))) (ec202) (((hF169.1 9 rfl).trans ((hF138.1 9 rfl).trans (fx_9)))) (((hF169.1 29 rfl).trans ((hF138.1 29 rfl).trans (fx_29)))) (by omega) (by omega) (by omega) (by omega) (by omega) (by omega) (by omega) (by omega) (by omega)
      · have _q : True := trivial
        have pz204 : at2_134 + tz tk2_166 ≤ at2_165 := by omega
        refine jr_st (pc_q := 132) (i := 20) (m := 7000) (z := n) (y := r164) rfl (by decide) rfl (by decide) (by omega) (by omega) rfl ?_
        have hW206 : Wk G162 (uA A163 20 (n).toNat (r164)) := Wk_a hW168 (show (-2147483648 : Int) ≤ r164 by omega) (show r164 ≤ (2147483647 : Int) by omega)
        have hF207 := Fr_a (z := r164) (k := 20) (n := (n).toNat) hF177 (by decide)
        obtain ⟨A205, eA205⟩ : ∃ q, q = uA A163 20 (n).toNat (r164) := ⟨_, rfl⟩
        rw [← eA205]
        rw [← eA205] at hW206 hF207
        have q208 : A205 20 (n).toNat = r164 := by rw [eA205]; exact uA_eq
        have hP209 : Pf nd A A205 := eA205 ▸ Pf_a hP178 (z := n) (by omega) (by omega)
        have hS210 : Fx sr (sy) A A205 := eA205 ▸ Fx_n hS179 rfl
        have hV211 : Fx [14] (vi) A A205 := eA205 ▸ Fx_n hV180 rfl
        have sf212 : ND A205 (n) (29) (sa1) (0) (exc) (r164) (0) (0) := ND_d eA205 sf181
        have sf213 : NdO A205 (nd) (nd1) (sy) (n) := NdO_st eA205 (by decide) sf182
        have ec214 : ecn A205 (G162 31) = ec1 := (ecn_e ((congrFun eA205 15).trans (uA_ne (by decide)))).trans ec183
        refine jx_ld (pc_q := 133) (l_q := L) (st_q := [.ref 66]) rfl (jl_aloadn gL_0) ?_
        refine jx_vr (pc_q := 136) (as := []) (st := []) rfl rfl rfl rfl ⟨rfl, rfl, Nat.le_of_ble_eq_true rfl⟩ rfl rfl (c_endLine (dd := d) (hd := by omega) (hW := hW206)  (ln := ln) (e_ln := show G162 9 = ln from ((hF169.1 9 rfl).trans ((hF138.1 9 rfl).trans (fx_9)))) (li := li) (e_li := show G162 3 = li from ((hF169.1 3 rfl).trans ((hF138.1 3 rfl).trans ((hFx.1 3 rfl).trans (e_li))))) (fk := fk2_167) (e_fk := show G162 16 = fk2_167 from (e173)) (tk0 := tk2_166) (e_tk0 := show G162 11 = tk2_166 from (e172))    (p_0 := by omega)) (fun o V_q hq => ?_)
        obtain ⟨G215, A216, ln2_217, fk2_218, rfl, rfl, hW219, hF220, e221, e222, q223⟩ := hq
        have hF224 := Fr_tr hF207 hF220 (Fr_sub (by decide)) (Fr_sub (by decide))
        have hP225 := Pf_f hP209 hF220 (by decide)
        have hS226 := Fx_f hS210 hF220 (by decide)
        have hV227 := Fx_f hV211 hF220 (by decide)
        have sf228 : ND A216 (n) (29) (sa1) (0) (exc) (r164) (0) (0) := ND_ag (by omega) (Ag_fr hF220 (by decide)) sf212
        have sf229 : NdO A216 (nd) (nd1) (sy) (n) := NdO_f hF220 (by decide) sf213
        have ec230 : ecn A216 (G215 31) = ec1 := (ecn_f (hF220.2 15 rfl) (hF220.1 31 rfl)).trans ec214
        have bln2_217 : (0 : Int) ≤ ln2_217 ∧ ln2_217 ≤ 3000 := e221 ▸ hW219.1 9
        have bfk2_218 : (0 : Int) ≤ fk2_218 ∧ fk2_218 ≤ 6 := e222 ▸ hW219.1 16
        refine .inl ⟨rfl, ?_⟩
        rcases q223 with ⟨a231, a232, a233, a234, a235⟩ | ⟨a236, a237⟩
        · have _q : True := trivial
          have b238 : (0 : Int) ≤ A 3 (ln2_217).toNat ∧ A 3 (ln2_217).toNat ≤ 3000 := hW.2 3 _
          have lt239 : ln2_217 < li → le < A 3 (ln2_217).toNat := fun hh => LT_nx (LT_ext (((hF220.1 3 rfl).trans ((hF169.1 3 rfl).trans ((hF138.1 3 rfl).trans (hFx.1 3 rfl))))) (((hF220.2 3 rfl).trans (((congrFun eA205 3).trans (uA_ne (by decide))).trans ((hF169.2 3 rfl).trans ((hF138.2 3 rfl).trans (hFx.2 3 rfl)))))) (((hF220.2 4 rfl).trans (((congrFun eA205 4).trans (uA_ne (by decide))).trans ((hF169.2 4 rfl).trans ((hF138.2 4 rfl).trans (hFx.2 4 rfl)))))) i_LT) (show G215 3 = li from ((hF220.1 3 rfl).trans ((hF169.1 3 rfl).trans ((hF138.1 3 rfl).trans ((hFx.1 3 rfl).trans (e_li)))))) (show A216 4 (ln).toNat = le from (congrFun ((hF220.2 4 rfl).trans (((congrFun eA205 4).trans (uA_ne (by decide))).trans ((hF169.2 4 rfl).trans ((hF138.2 4 rfl).trans (hFx.2 4 rfl))))) _).trans (e_le)) (show A216 3 (ln2_217).toNat = A 3 (ln2_217).toNat from (congrFun ((hF220.2 3 rfl).trans (((congrFun eA205 3).trans (uA_ne (by decide))).trans ((hF169.2 3 rfl).trans ((hF138.2 3 rfl).trans (hFx.2 3 rfl))))) _)) (show ln2_217 = ln + 1 by omega) (by omega) hh
          refine jx_ld (pc_q := 137) (l_q := L) (st_q := [.ref 66]) rfl (jl_aloadn gL_0) ?_
          refine jx_ld (pc_q := 138) (l_q := L) (st_q := [.int (i32 (n)), .ref 66]) rfl (jl_iloadn gL_2) ?_
          refine jx_ld (pc_q := 139) (l_q := L) (st_q := [.int (i32 (lv)), .int (i32 (n)), .ref 66]) rfl (jl_iloadn gL_1) ?_
          refine jx_vr (pc_q := 142) (as := [.int (i32 (n)), .int (i32 (lv))]) (st := []) rfl rfl rfl rfl ⟨rfl, rfl, Nat.le_of_ble_eq_true rfl⟩ rfl rfl (c_readIndexed_w (dd := d) (hP := hP) (zz := nd) (hd := by omega) (hW := hW219) (n := n) (lv := lv) (kk := 29) (bb := 0) (cc := exc) (de := r164) (xx := 0) (ln := ln2_217) (e_ln := show G215 9 = ln2_217 from (e221)) (li := li) (e_li := show G215 3 = li from ((hF220.1 3 rfl).trans ((hF169.1 3 rfl).trans ((hF138.1 3 rfl).trans ((hFx.1 3 rfl).trans (e_li)))))) (at0 := at2_165) (e_at0 := show G215 10 = at2_165 from ((hF220.1 10 rfl).trans (e171))) (fk := fk2_218) (e_fk := show G215 16 = fk2_218 from (e222)) (nd := nd1) (e_nd := show G215 31 = nd1 from ((hF220.1 31 rfl).trans ((hF169.1 31 rfl).trans ((hF138.1 31 rfl).trans (ex_nd1))))) (sy := sy1) (e_sy := show G215 19 = sy1 from ((hF220.1 19 rfl).trans ((hF169.1 19 rfl).trans ((hF138.1 19 rfl).trans (ex_sy1))))) (na := na1) (e_na := show G215 28 = na1 from ((hF220.1 28 rfl).trans ((hF169.1 28 rfl).trans ((hF138.1 28 rfl).trans (ex_na1))))) (vi := vi) (e_vi := show G215 29 = vi from ((hF220.1 29 rfl).trans ((hF169.1 29 rfl).trans ((hF138.1 29 rfl).trans (fx_29))))) (lf := A 3 (ln2_217).toNat) (e_lf := show A216 3 (ln2_217).toNat = A 3 (ln2_217).toNat from (congrFun ((hF220.2 3 rfl).trans (((congrFun eA205 3).trans (uA_ne (by decide))).trans ((hF169.2 3 rfl).trans ((hF138.2 3 rfl).trans (hFx.2 3 rfl))))) _)) (sa := sa1) (e_sa := show A216 17 (n).toNat = sa1 from (congrFun ((hF220.2 17 rfl).trans (((congrFun eA205 17).trans (uA_ne (by decide))).trans ((hF169.2 17 rfl).trans (hF138.2 17 rfl)))) _).trans (ex_sa1)) (ksa := ka1) (e_ksa := show A216 7 (sa1).toNat = ka1 from (congrFun ((hF220.2 7 rfl).trans (((congrFun eA205 7).trans (uA_ne (by decide))).trans ((hF169.2 7 rfl).trans (hF138.2 7 rfl)))) _).trans (ex_ka1)) (ec := ec1) (e_ec := show ecn A216 (G215 31) = ec1 from ec230) (i_LT := (LT_ext (((hF220.1 3 rfl).trans ((hF169.1 3 rfl).trans ((hF138.1 3 rfl).trans (hFx.1 3 rfl))))) (((hF220.2 3 rfl).trans (((congrFun eA205 3).trans (uA_ne (by decide))).trans ((hF169.2 3 rfl).trans ((hF138.2 3 rfl).trans (hFx.2 3 rfl)))))) (((hF220.2 4 rfl).trans (((congrFun eA205 4).trans (uA_ne (by decide))).trans ((hF169.2 4 rfl).trans ((hF138.2 4 rfl).trans (hFx.2 4 rfl)))))) i_LT)) (i_SV := (SV_fx i_SV e_vi (show G215 29 = vi from ((hF220.1 29 rfl).trans ((hF169.1 29 rfl).trans ((hF138.1 29 rfl).trans (fx_29))))) (by omega) hV227)) (i_PQ := (PQ_fx i_PQ hS226 (by omega) (hF224.2 29 rfl) (hF224.2 30 rfl))) (hvb := hvb) (h_n := ⟨(Int.le_trans (by decide : (-2147483648 : Int) ≤ -2147483648) rx_n.1), (Int.le_trans rx_n.2 (by decide : (2147483647 : Int) ≤ 2147483647))⟩) (h_lv := ⟨(Int.le_trans (by decide : (-2147483648 : Int) ≤ -2147483648) h_lv.1), (Int.le_trans h_lv.2 (by decide : (2147483647 : Int) ≤ 2147483647))⟩)  (p_0 := by omega) (p_1 := by omega) (p_2 := by omega) (p_3 := by omega) (p_4 := by omega) (p_5 := by omega) (p_6 := by omega) (p_7 := by omega) (p_8 := by omega) (p_9 := by omega) (p_10 := by omega) (p_11 := by omega) (p_12 := by omega) (p_13 := by omega) (p_14 := by omega) (p_15 := by omega) (p_16 := sf228) (p_17 := (NdO_w sf229 (by omega) (by omega) (by omega)))) (fun o V_q hq => ?_)
          obtain ⟨G240, A241, ln2_242, at2_243, fk2_244, nd2_245, sy2_246, na2_247, vi2_248, lf2_249, f2_250, ec2_251, rfl, rfl, hW252, hF253, hQ254, hQ255, hQ256, hQ257, e258, e259, e260, e261, e262, e263, e264, e265, e266, e267, p268, p269, p270, p271, p272, p273, p274, q275⟩ := hq
          have hF276 := Fr_tr hF224 hF253 (Fr_sub (by decide)) (Fr_sub (by decide))
          have hP277 := Pf_tr hP225 hQ254 (by omega)
          have hS278 := Fx_tr hS226 hQ256 (by omega)
          have hV279 := Fx_tr hV227 hQ257 (by omega)
          have k280 : A241 7 (sa1).toNat = ka1 := (hQ256 7 _ rfl (by omega)).trans (show A216 7 (sa1).toNat = ka1 from (congrFun ((hF220.2 7 rfl).trans (((congrFun eA205 7).trans (uA_ne (by decide))).trans ((hF169.2 7 rfl).trans (hF138.2 7 rfl)))) _).trans (ex_ka1))
          have sf281 : NdM A241 (n + 1) (nd1) (sy) := NdM_px hQ255 (by omega) (by omega) (by omega) (NdO_r (lo_q := n + 1) (by omega) (by omega) sf229)
          have bln2_242 : (0 : Int) ≤ ln2_242 ∧ ln2_242 ≤ 3000 := e258 ▸ hW252.1 9
          have bat2_243 : (0 : Int) ≤ at2_243 ∧ at2_243 ≤ 3002 := e259 ▸ hW252.1 10
          have bfk2_244 : (0 : Int) ≤ fk2_244 ∧ fk2_244 ≤ 6 := e260 ▸ hW252.1 16
          have bnd2_245 : (0 : Int) ≤ nd2_245 ∧ nd2_245 ≤ 6999 := e261 ▸ hW252.1 31
          have bsy2_246 : (0 : Int) ≤ sy2_246 ∧ sy2_246 ≤ 202 := e262 ▸ hW252.1 19
          have bna2_247 : (0 : Int) ≤ na2_247 ∧ na2_247 ≤ 200 := e263 ▸ hW252.1 28
          have bvi2_248 : (0 : Int) ≤ vi2_248 ∧ vi2_248 ≤ 202 := e264 ▸ hW252.1 29
          have blf2_249 : (0 : Int) ≤ lf2_249 ∧ lf2_249 ≤ 3000 := e265 ▸ hW252.2 3 _
          have bf2_250 : (-2147483648 : Int) ≤ f2_250 ∧ f2_250 ≤ 2147483647 := e266 ▸ hW252.2 21 _
          refine .inr ⟨_, rfl, ?_⟩
          rcases q275 with ⟨a282, a283⟩ | ⟨a284, a285, a286, a287, a288, a289, a290, a291, a292⟩
          · have _q : True := trivial
            refine jx_rt (v := some (.int (i32 (n)))) rfl rfl rfl rfl rfl rfl ?_
            exact ⟨_, _, _, ln2_242, at2_243, fk2_244, nd2_245, sy2_246, na2_247, vi2_248, lf2_249, ec2_251, rfl, rfl, hW252, hF276, hP277, hS278, hV279, by omega, (e258), (e259), (e260), (e261), (e262), (e263), (e264), (e265), e267, by omega, by omega, by omega, by omega, by omega, by omega, by omega, by omega, by omega, by omega, by first | exact Or.inl (⟨by omega, by omega⟩)⟩
          · have _q : True := trivial
            refine jx_rt (v := some (.int (i32 (n)))) rfl rfl rfl rfl rfl rfl ?_
            exact ⟨_, _, _, ln2_242, at2_243, fk2_244, nd2_245, sy2_246, na2_247, vi2_248, lf2_249, ec2_251, rfl, rfl, hW252, hF276, hP277, hS278, hV279, by omega, (e258), (e259), (e260), (e261), (e262), (e263), (e264), (e265), e267, by omega, by omega, by omega, by omega, by omega, by omega, by omega, by omega, by omega, by omega, by first | exact Or.inr ((⟨by omega, by omega, by omega, by omega, by omega, by omega, by omega, (wS_parfor (ND_ae a288 (by omega : sa1 = sy)) (by omega) (by rw [← (by omega : sa1 = sy)]; exact (show A241 7 (sa1).toNat = ka1 from (k280)).trans (by omega)) (by omega) (by omega) (by omega) (by omega) (wP_vu (by omega : sa1 = sy) (wP_eq a289 (by omega) rfl (by omega) (by omega) (by omega) (by omega) (by omega) (by omega)))), (NX_nd a288), by omega, (NdO_w (NdO_app (sy := sy) a291 (NdO_app (sy := sy) (NdO_m (r := n) sf281) (NdO_m (r := n) a292) (by omega) (by omega) (by omega)) (by omega) (by omega) (by omega)) (by omega) (by omega) (by omega))⟩))⟩
        · have _q : True := trivial
          refine jx_ld (pc_q := 137) (l_q := L) (st_q := [.ref 66]) rfl (jl_aloadn gL_0) ?_
          refine jx_ld (pc_q := 138) (l_q := L) (st_q := [.int (i32 (n)), .ref 66]) rfl (jl_iloadn gL_2) ?_
          refine jx_ld (pc_q := 139) (l_q := L) (st_q := [.int (i32 (lv)), .int (i32 (n)), .ref 66]) rfl (jl_iloadn gL_1) ?_
          refine jx_vr (pc_q := 142) (as := [.int (i32 (n)), .int (i32 (lv))]) (st := []) rfl rfl rfl rfl ⟨rfl, rfl, Nat.le_of_ble_eq_true rfl⟩ rfl rfl (c_readIndexed_f (dd := d) (hd := by omega) (hW := hW219) (n := n) (lv := lv) (fk := fk2_218) (e_fk := show G215 16 = fk2_218 from (e222))  (h_n := ⟨(Int.le_trans (by decide : (-2147483648 : Int) ≤ -2147483648) rx_n.1), (Int.le_trans rx_n.2 (by decide : (2147483647 : Int) ≤ 2147483647))⟩) (h_lv := ⟨(Int.le_trans (by decide : (-2147483648 : Int) ≤ -2147483648) h_lv.1), (Int.le_trans h_lv.2 (by decide : (2147483647 : Int) ≤ 2147483647))⟩)  (p_0 := by omega)) (fun o V_q hq => ?_)
          obtain ⟨r293, rfl, rfl, b294, p295, -⟩ := hq
          refine .inr ⟨_, rfl, ?_⟩
          refine jx_rt (v := some (.int (i32 (r293)))) rfl rfl rfl rfl rfl rfl ?_
          exact ⟨_, _, _, ln2_217, at2_165, fk2_218, nd1, sy1, na1, vi, A 3 (ln2_217).toNat, ec1, rfl, rfl, hW219, hF224, hP225, hS226, hV227, by omega, (e221), ((hF220.1 10 rfl).trans (e171)), (e222), ((hF220.1 31 rfl).trans ((hF169.1 31 rfl).trans ((hF138.1 31 rfl).trans (ex_nd1)))), ((hF220.1 19 rfl).trans ((hF169.1 19 rfl).trans ((hF138.1 19 rfl).trans (ex_sy1)))), ((hF220.1 28 rfl).trans ((hF169.1 28 rfl).trans ((hF138.1 28 rfl).trans (ex_na1)))), ((hF220.1 29 rfl).trans ((hF169.1 29 rfl).trans ((hF138.1 29 rfl).trans (fx_29)))), (congrFun ((hF220.2 3 rfl).trans (((congrFun eA205 3).trans (uA_ne (by decide))).trans ((hF169.2 3 rfl).trans ((hF138.2 3 rfl).trans (hFx.2 3 rfl))))) _), ec230, by omega, by omega, by omega, by omega, by omega, by omega, by omega, by omega, by omega, by omega, by first | exact Or.inl (⟨by omega, by omega⟩)⟩
  · have _q : True := trivial
    refine jx_vr (pc_q := 119) (as := [.int (i32 (0))]) (st := []) rfl rfl rfl rfl ⟨rfl, rfl, Nat.le_of_ble_eq_true rfl⟩ rfl rfl (c_need (dd := d) (hd := by omega) (hW := hWx) (g := 0) (ln := ln) (e_ln := show Gx 9 = ln from (fx_9)) (le := le) (e_le := show Ax 4 (ln).toNat = le from (congrFun (hFx.2 4 rfl) _).trans (e_le)) (at0 := at1) (e_at0 := show Gx 10 = at1 from (ex_at1)) (fk := fk1) (e_fk := show Gx 16 = fk1 from (ex_fk1)) (tk0 := tk1) (e_tk0 := show Gx 11 = tk1 from (ex_tk1))  (h_g := ⟨(by decide), (by decide)⟩)  (p_0 := by omega)) (fun o V_q hq => ?_)
    obtain ⟨G297, A298, at2_299, tk2_300, fk2_301, rfl, rfl, hW302, hF303, e304, e305, e306, p307, p308, q309⟩ := hq
    have hF310 := Fr_tr hFx hF303 (Fr_sub (by decide)) (Fr_sub (by decide))
    have hP311 := Pf_f hPx hF303 (by decide)
    have hS312 := Fx_f hSx hF303 (by decide)
    have hV313 := Fx_f hVx hF303 (by decide)
    have sf314 : ND A298 (n) (29) (sa1) (0) (exc) (0) (0) (0) := ND_ag (by omega) (Ag_fr hF303 (by decide)) iv_11
    have sf315 : NdO A298 (nd) (nd1) (sy) (n) := NdO_f hF303 (by decide) iv_15
    have ec316 : ecn A298 (G297 31) = ec1 := (ecn_f (hF303.2 15 rfl) (hF303.1 31 rfl)).trans ex_ec1
    have bat2_299 : (0 : Int) ≤ at2_299 ∧ at2_299 ≤ 3002 := e304 ▸ hW302.1 10
    have ztk2_300 := tz_b tk2_300
    have btk2_300 : (0 : Int) ≤ tk2_300 ∧ tk2_300 ≤ 5 := e305 ▸ hW302.1 11
    have bfk2_301 : (0 : Int) ≤ fk2_301 ∧ fk2_301 ≤ 6 := e306 ▸ hW302.1 16
    refine .inl ⟨rfl, ?_⟩
    rcases q309 with ⟨a317, a318, a319, a320⟩ | ⟨a321, a322, a323, a324⟩
    · have _q : True := trivial
      have z325 := tz_f (tk2_300)
      exact c_readPar_w_at_119p (X := X) (k := k) (hP := hP) (d := d) (Vs := Vs) (sb := sb) (pb := pb) (hvb := hvb) (c0 := c0) (c1 := c1) (G := G) (A := A) (T := T) (lv := lv) (ln := ln) (li := li) (at0 := at0) (fk := fk) (nd := nd) (sy := sy) (na := na) (vi := vi) (le := le) (op0 := op0) (tk0 := tk0) (ec := ec) (hd := hd) (hW := hW) (e_ln := e_ln) (e_li := e_li) (e_at0 := e_at0) (e_fk := e_fk) (e_nd := e_nd) (e_sy := e_sy) (e_na := e_na) (e_vi := e_vi) (e_le := e_le) (e_op0 := e_op0) (e_tk0 := e_tk0) (e_ec := e_ec) (i_LT := i_LT) (i_SV := i_SV) (i_PQ := i_PQ) (h_lv := h_lv) (p_0 := p_0) (p_1 := p_1) (p_2 := p_2) (p_3 := p_3) (p_4 := p_4) (p_5 := p_5) (p_6 := p_6) (p_7 := p_7) (p_8 := p_8) (p_9 := p_9) (p_10 := p_10) L G297 A298 (n) (at2_299) (tk2_300) (fk2_301) (nd1) (op1) (sy1) (na1) (ec1) gL_0 gL_1 gL_2 hW302 hF310 hP311 hS312 hV313 ((e304)) ((e305)) ((e306)) (((hF303.1 31 rfl).trans (ex_nd1))) (((hF303.1 15 rfl).trans (ex_op1))) (((hF303.1 19 rfl).trans (ex_sy1))) (((hF303.1 28 rfl).trans (ex_na1))) (ec316) (((hF303.1 9 rfl).trans (fx_9))) (((hF303.1 29 rfl).trans (fx_29))) (by omega) (by omega) (by omega) (by omega) (by omega) (by omega) (by omega) (by omega) (by omega)
    · have _q : True := trivial
      exfalso
      omega
set_option maxRecDepth 20000 in
set_option maxHeartbeats 4000000 in
theorem c_readPar_w_at_95p {X : jX} {k : Nat} (hP : RPw X k) {d : Nat} {Vs : Nat → Prop} {sb pb : Int} (hvb : VB Vs sb) {c0 c1 : jC} {G : Nat → Int} {A : Nat → Nat → Int} {T : jH} {lv : Int} {ln li at0 fk nd sy na vi le op0 tk0 ec : Int} (hd : 8 * k + 82 ≤ d + 1) (hW : Wk G A) (e_ln : G 9 = ln) (e_li : G 3 = li) (e_at0 : G 10 = at0) (e_fk : G 16 = fk) (e_nd : G 31 = nd) (e_sy : G 19 = sy) (e_na : G 28 = na) (e_vi : G 29 = vi) (e_le : A 4 (ln).toNat = le) (e_op0 : G 15 = op0) (e_tk0 : G 11 = tk0) (e_ec : ecn A (G 31) = ec) (i_LT : LT G A) (i_SV : SV Vs sb G A) (i_PQ : PQ Vs sb pb G A) (h_lv : (-2147483648 : Int) ≤ lv ∧ lv ≤ 2147483647) (p_0 : 0 ≤ lv ∧ lv ≤ 15) (p_1 : 18 - lv ≤ ((k + 1 : Nat) : Int)) (p_2 : fk = 0) (p_3 : ln < li) (p_4 : at0 ≤ le) (p_5 : op0 = 0) (p_6 : nd ≤ 2 * at0 - tz tk0 + 30) (p_7 : sy ≤ na + 2) (p_8 : vi ≤ sy) (p_9 : sb = sy) (p_10 : 1 ≤ tk0) : ∀ (L : jL) (Gx : Nat → Int) (Ax : Nat → Nat → Int) (n at1 tk1 fk1 nd1 op1 sy1 na1 ec1 : Int), jGet L 0 = some (.ref 66) → jGet L 1 = some (.int (i32 (lv))) → jGet L 2 = some (.int (i32 n)) → Wk Gx Ax → Fr [9, 10, 11, 12, 13, 14, 15, 16, 17, 18, 19, 28, 29, 31] [6, 7, 8, 9, 10, 11, 12, 14, 15, 16, 17, 18, 19, 20, 21, 22, 23, 24, 28] G A Gx Ax → Pf nd A Ax → Fx sr (sy) A Ax → Fx [14] (vi) A Ax → Gx 10 = at1 → Gx 11 = tk1 → Gx 16 = fk1 → Gx 31 = nd1 → Gx 15 = op1 → Gx 19 = sy1 → Gx 28 = na1 → ecn Ax (Gx 31) = ec1 → Gx 9 = ln → Gx 29 = vi → ((-2147483648 : Int) ≤ n ∧ n ≤ 2147483647) → (1 ≤ fk1) → (at0 ≤ at1) → (at1 ≤ le) → (nd ≤ n ∧ n ≤ 6998 ∧ n < nd1) → (sy ≤ sy1) → (sy1 ≤ na1 + 2) → (0 ≤ op1 ∧ op1 ≤ 9) → (nd1 - nd ≤ 2 * at1 - 2 * at0 + 8) → wj X d jm299 (95, L, [], rV c0 c1 Gx Ax T) (fun o V_q => ∃ (G_q : Nat → Int) (A_q : Nat → Nat → Int) (r : Int) (ln2 : Int) (at2 : Int) (fk2 : Int) (nd2 : Int) (sy2 : Int) (na2 : Int) (vi2 : Int) (lf2 : Int) (ec2 : Int), V_q = rV c0 c1 G_q A_q T ∧ o = .inl (some (.int (i32 r))) ∧ Wk G_q A_q ∧ Fr [9, 10, 11, 12, 13, 14, 15, 16, 17, 18, 19, 28, 29, 31] [6, 7, 8, 9, 10, 11, 12, 14, 15, 16, 17, 18, 19, 20, 21, 22, 23, 24, 28] G A G_q A_q ∧ Pf nd A A_q ∧ Fx sr (sy) A A_q ∧ Fx [14] (vi) A A_q ∧ ((-2147483648 : Int) ≤ r ∧ r ≤ 2147483647) ∧ G_q 9 = ln2 ∧ G_q 10 = at2 ∧ G_q 16 = fk2 ∧ G_q 31 = nd2 ∧ G_q 19 = sy2 ∧ G_q 28 = na2 ∧ G_q 29 = vi2 ∧ A_q 3 (ln2).toNat = lf2 ∧ ecn A_q (G_q 31) = ec2 ∧ (at0 ≤ at2) ∧ (nd ≤ nd2) ∧ (sy ≤ sy2) ∧ (sy2 ≤ na2 + 2) ∧ (vi ≤ vi2) ∧ (vi2 ≤ vi + 1) ∧ (0 ≤ r) ∧ (r ≤ 6999) ∧ (ln ≤ ln2) ∧ (ln2 ≤ li) ∧ (((1 ≤ fk2) ∧ (nd2 - nd ≤ 2 * at2 - (2 * at0 - tz tk0) + 14)) ∨ ((fk2 = 0) ∧ (vi2 = vi) ∧ (ln < ln2) ∧ (nd2 - nd ≤ 2 * at2 - (2 * at0 - tz tk0)) ∧ (at2 < lf2 ∨ li ≤ ln2) ∧ (nd ≤ r) ∧ (r < nd2) ∧ (wSt A_q (sy2) pb (wP A_q (sy2) pb (k)) (Vs) (r) (nd) (nd2) (sy) (sy2)) ∧ (NX A_q (r)) ∧ (nd2 - nd + 5 * (ec2 - ec) ≤ 2 * at2 - (2 * at0 - tz tk0)) ∧ (NdO A_q (nd) (nd2) (sy) (r))))) := by
  have hF0 : Fr [9, 10, 11, 12, 13, 14, 15, 16, 17, 18, 19, 28, 29, 31] [6, 7, 8, 9, 10, 11, 12, 14, 15, 16, 17, 18, 19, 20, 21, 22, 23, 24, 28] G A G A := Fr_rf
  have hP0 : Pf nd A A := Pf_rf
  have hS0 : Fx sr (sy) A A := Fx_rf
  have hV0 : Fx [14] (vi) A A := Fx_rf
  have b_ln : (0 : Int) ≤ ln ∧ ln ≤ 3000 := e_ln ▸ hW.1 9
  have b_li : (0 : Int) ≤ li ∧ li ≤ 3000 := e_li ▸ hW.1 3
  have b_at0 : (0 : Int) ≤ at0 ∧ at0 ≤ 3002 := e_at0 ▸ hW.1 10
  have b_fk : (0 : Int) ≤ fk ∧ fk ≤ 6 := e_fk ▸ hW.1 16
  have b_nd : (0 : Int) ≤ nd ∧ nd ≤ 6999 := e_nd ▸ hW.1 31
  have b_sy : (0 : Int) ≤ sy ∧ sy ≤ 202 := e_sy ▸ hW.1 19
  have b_na : (0 : Int) ≤ na ∧ na ≤ 200 := e_na ▸ hW.1 28
  have b_vi : (0 : Int) ≤ vi ∧ vi ≤ 202 := e_vi ▸ hW.1 29
  have b_le : (0 : Int) ≤ le ∧ le ≤ 3000 := e_le ▸ hW.2 4 _
  have b_op0 : (-2147483648 : Int) ≤ op0 ∧ op0 ≤ 2147483647 := e_op0 ▸ hW.1 15
  have z_tk0 := tz_f tk0
  have b_tk0 : (0 : Int) ≤ tk0 ∧ tk0 ≤ 5 := e_tk0 ▸ hW.1 11
  intro L Gx Ax n at1 tk1 fk1 nd1 op1 sy1 na1 ec1 gL_0 gL_1 gL_2 hWx hFx hPx hSx hVx ex_at1 ex_tk1 ex_fk1 ex_nd1 ex_op1 ex_sy1 ex_na1 ex_ec1 fx_9 fx_29 rx_n iv_0 iv_1 iv_2 iv_3 iv_4 iv_5 iv_6 iv_7
  have b_at1 : (0 : Int) ≤ at1 ∧ at1 ≤ 3002 := ex_at1 ▸ hWx.1 10
  have z_tk1 := tz_f tk1
  have b_tk1 : (0 : Int) ≤ tk1 ∧ tk1 ≤ 5 := ex_tk1 ▸ hWx.1 11
  have b_fk1 : (0 : Int) ≤ fk1 ∧ fk1 ≤ 6 := ex_fk1 ▸ hWx.1 16
  have b_nd1 : (0 : Int) ≤ nd1 ∧ nd1 ≤ 6999 := ex_nd1 ▸ hWx.1 31
  have b_op1 : (-2147483648 : Int) ≤ op1 ∧ op1 ≤ 2147483647 := ex_op1 ▸ hWx.1 15
  have b_sy1 : (0 : Int) ≤ sy1 ∧ sy1 ≤ 202 := ex_sy1 ▸ hWx.1 19
  have b_na1 : (0 : Int) ≤ na1 ∧ na1 ≤ 200 := ex_na1 ▸ hWx.1 28
  refine jx_ld (pc_q := 96) (l_q := L) (st_q := [.ref 66]) rfl (jl_aloadn gL_0) ?_
  refine jr_get (pc_q := 99) (i := 36) (v := .ref 86) rfl rfl (by decide) rfl rfl ?_
  refine jx_ld (pc_q := 100) (l_q := L) (st_q := [.int (i32 (n)), .ref 86]) rfl (jl_iloadn gL_2) ?_
  refine jx_ld (pc_q := 101) (l_q := L) (st_q := [.ref 66, .int (i32 (n)), .ref 86]) rfl (jl_aloadn gL_0) ?_
  refine jx_ar (pc_q := 102) (st_q := [.int (i32 (0)), .ref 66, .int (i32 (n)), .ref 86]) rfl rfl rfl rfl ?_
  refine jx_hp (pc_q := 105) (st_q := [.int (i32 (2147483647)), .int (i32 (0)), .ref 66, .int (i32 (n)), .ref 86]) rfl rfl rfl rfl rfl rfl ?_
  refine jx_vr (pc_q := 108) (as := [.int (i32 (0)), .int (i32 (2147483647))]) (st := [.int (i32 (n)), .ref 86]) rfl rfl rfl rfl ⟨rfl, rfl, Nat.le_of_ble_eq_true rfl⟩ rfl rfl (c_needNumber (dd := d) (hd := by omega) (hW := hWx) (lo := 0) (hi := 2147483647) (ln := ln) (e_ln := show Gx 9 = ln from (fx_9)) (le := le) (e_le := show Ax 4 (ln).toNat = le from (congrFun (hFx.2 4 rfl) _).trans (e_le)) (at0 := at1) (e_at0 := show Gx 10 = at1 from (ex_at1)) (fk := fk1) (e_fk := show Gx 16 = fk1 from (ex_fk1)) (tk0 := tk1) (e_tk0 := show Gx 11 = tk1 from (ex_tk1))  (h_lo := ⟨(by decide), (by decide)⟩) (h_hi := ⟨(by decide), (by decide)⟩)  (p_0 := by omega)) (fun o V_q hq => ?_)
  obtain ⟨G326, A327, r328, at2_329, tk2_330, fk2_331, rfl, rfl, hW332, hF333, b334, e335, e336, e337, p338, p339, q340⟩ := hq
  have hF341 := Fr_tr hFx hF333 (Fr_sub (by decide)) (Fr_sub (by decide))
  have hP342 := Pf_f hPx hF333 (by decide)
  have hS343 := Fx_f hSx hF333 (by decide)
  have hV344 := Fx_f hVx hF333 (by decide)
  have ec345 : ecn A327 (G326 31) = ec1 := (ecn_f (hF333.2 15 rfl) (hF333.1 31 rfl)).trans ex_ec1
  have bat2_329 : (0 : Int) ≤ at2_329 ∧ at2_329 ≤ 3002 := e335 ▸ hW332.1 10
  have ztk2_330 := tz_b tk2_330
  have btk2_330 : (0 : Int) ≤ tk2_330 ∧ tk2_330 ≤ 5 := e336 ▸ hW332.1 11
  have bfk2_331 : (0 : Int) ≤ fk2_331 ∧ fk2_331 ≤ 6 := e337 ▸ hW332.1 16
  refine .inr ⟨_, rfl, ?_⟩
  rcases q340 with ⟨a346, a347, a348, a349⟩ | ⟨a350, a351, a352, a353, a354⟩
  · have _q : True := trivial
    refine jr_st (pc_q := 109) (i := 19) (m := 7000) (z := n) (y := r328) rfl (by decide) rfl (by decide) (by omega) (by omega) rfl ?_
    have hW356 : Wk G326 (uA A327 19 (n).toNat (r328)) := Wk_a hW332 (show (-2147483648 : Int) ≤ r328 by omega) (show r328 ≤ (2147483647 : Int) by omega)
    have hF357 := Fr_a (z := r328) (k := 19) (n := (n).toNat) hF341 (by decide)
    obtain ⟨A355, eA355⟩ : ∃ q, q = uA A327 19 (n).toNat (r328) := ⟨_, rfl⟩
    rw [← eA355]
    rw [← eA355] at hW356 hF357
    have q358 : A355 19 (n).toNat = r328 := by rw [eA355]; exact uA_eq
    have hP359 : Pf nd A A355 := eA355 ▸ Pf_a hP342 (z := n) (by omega) (by omega)
    have hS360 : Fx sr (sy) A A355 := eA355 ▸ Fx_n hS343 rfl
    have hV361 : Fx [14] (vi) A A355 := eA355 ▸ Fx_n hV344 rfl
    have ec362 : ecn A355 (G326 31) = ec1 := (ecn_e ((congrFun eA355 15).trans (uA_ne (by decide)))).trans ec345
    have z363 := tz_f (tk2_330)
    exact c_readPar_w_at_109p (X := X) (k := k) (hP := hP) (d := d) (Vs := Vs) (sb := sb) (pb := pb) (hvb := hvb) (c0 := c0) (c1 := c1) (G := G) (A := A) (T := T) (lv := lv) (ln := ln) (li := li) (at0 := at0) (fk := fk) (nd := nd) (sy := sy) (na := na) (vi := vi) (le := le) (op0 := op0) (tk0 := tk0) (ec := ec) (hd := hd) (hW := hW) (e_ln := e_ln) (e_li := e_li) (e_at0 := e_at0) (e_fk := e_fk) (e_nd := e_nd) (e_sy := e_sy) (e_na := e_na) (e_vi := e_vi) (e_le := e_le) (e_op0 := e_op0) (e_tk0 := e_tk0) (e_ec := e_ec) (i_LT := i_LT) (i_SV := i_SV) (i_PQ := i_PQ) (h_lv := h_lv) (p_0 := p_0) (p_1 := p_1) (p_2 := p_2) (p_3 := p_3) (p_4 := p_4) (p_5 := p_5) (p_6 := p_6) (p_7 := p_7) (p_8 := p_8) (p_9 := p_9) (p_10 := p_10) L G326 A355 (n) (at2_329) (tk2_330) (fk2_331) (nd1) (op1) (sy1) (na1) (ec1) gL_0 gL_1 gL_2 hW356 hF357 hP359 hS360 hV361 ((e335)) ((e336)) ((e337)) (((hF333.1 31 rfl).trans (ex_nd1))) (((hF333.1 15 rfl).trans (ex_op1))) (((hF333.1 19 rfl).trans (ex_sy1))) (((hF333.1 28 rfl).trans (ex_na1))) (ec362) (((hF333.1 9 rfl).trans (fx_9))) (((hF333.1 29 rfl).trans (fx_29))) (by omega) (by omega) (by omega) (by omega) (by omega) (by omega) (by omega) (by omega) (by omega)
  · have _q : True := trivial
    exfalso
    omega
set_option maxRecDepth 20000 in
set_option maxHeartbeats 4000000 in
theorem c_readPar_w_at_95 {X : jX} {k : Nat} (hP : RPw X k) {d : Nat} {Vs : Nat → Prop} {sb pb : Int} (hvb : VB Vs sb) {c0 c1 : jC} {G : Nat → Int} {A : Nat → Nat → Int} {T : jH} {lv : Int} {ln li at0 fk nd sy na vi le op0 tk0 ec : Int} (hd : 8 * k + 82 ≤ d + 1) (hW : Wk G A) (e_ln : G 9 = ln) (e_li : G 3 = li) (e_at0 : G 10 = at0) (e_fk : G 16 = fk) (e_nd : G 31 = nd) (e_sy : G 19 = sy) (e_na : G 28 = na) (e_vi : G 29 = vi) (e_le : A 4 (ln).toNat = le) (e_op0 : G 15 = op0) (e_tk0 : G 11 = tk0) (e_ec : ecn A (G 31) = ec) (i_LT : LT G A) (i_SV : SV Vs sb G A) (i_PQ : PQ Vs sb pb G A) (h_lv : (-2147483648 : Int) ≤ lv ∧ lv ≤ 2147483647) (p_0 : 0 ≤ lv ∧ lv ≤ 15) (p_1 : 18 - lv ≤ ((k + 1 : Nat) : Int)) (p_2 : fk = 0) (p_3 : ln < li) (p_4 : at0 ≤ le) (p_5 : op0 = 0) (p_6 : nd ≤ 2 * at0 - tz tk0 + 30) (p_7 : sy ≤ na + 2) (p_8 : vi ≤ sy) (p_9 : sb = sy) (p_10 : 1 ≤ tk0) : ∀ (L : jL) (Gx : Nat → Int) (Ax : Nat → Nat → Int) (n at1 tk1 fk1 nd1 op1 sy1 na1 sa1 ka1 ec1 : Int), jGet L 0 = some (.ref 66) → jGet L 1 = some (.int (i32 (lv))) → jGet L 2 = some (.int (i32 n)) → Wk Gx Ax → Fr [9, 10, 11, 12, 13, 14, 15, 16, 17, 18, 19, 28, 29, 31] [6, 7, 8, 9, 10, 11, 12, 14, 15, 16, 17, 18, 19, 20, 21, 22, 23, 24, 28] G A Gx Ax → Pf nd A Ax → Fx sr (sy) A Ax → Fx [14] (vi) A Ax → Gx 10 = at1 → Gx 11 = tk1 → Gx 16 = fk1 → Gx 31 = nd1 → Gx 15 = op1 → Gx 19 = sy1 → Gx 28 = na1 → Ax 17 (n).toNat = sa1 → Ax 7 (sa1).toNat = ka1 → ecn Ax (Gx 31) = ec1 → Gx 9 = ln → Gx 29 = vi → ((-2147483648 : Int) ≤ n ∧ n ≤ 2147483647) → (fk1 = 0) → (at0 ≤ at1) → (at1 ≤ le) → (n = nd) → (n ≤ 6998 ∧ n < nd1) → (sy1 = sy + 1) → (sa1 = sy) → (sy1 ≤ na1 + 2) → (op1 = 0) → (nd1 - nd ≤ (2 * at1 - tz tk1) - (2 * at0 - tz tk0)) → (ka1 = 10) → (nd1 = n + 1) → (ND Ax (n) (29) (sa1) (0) (0) (0) (0) (0)) → (nd1 - nd + 5 * (ec1 - ec) ≤ (2 * at1 - tz tk1) - (2 * at0 - tz tk0)) → (NdO Ax (nd) (nd1) (sy) (n)) → wj X d jm299 (95, L, [], rV c0 c1 Gx Ax T) (fun o V_q => ∃ (G_q : Nat → Int) (A_q : Nat → Nat → Int) (r : Int) (ln2 : Int) (at2 : Int) (fk2 : Int) (nd2 : Int) (sy2 : Int) (na2 : Int) (vi2 : Int) (lf2 : Int) (ec2 : Int), V_q = rV c0 c1 G_q A_q T ∧ o = .inl (some (.int (i32 r))) ∧ Wk G_q A_q ∧ Fr [9, 10, 11, 12, 13, 14, 15, 16, 17, 18, 19, 28, 29, 31] [6, 7, 8, 9, 10, 11, 12, 14, 15, 16, 17, 18, 19, 20, 21, 22, 23, 24, 28] G A G_q A_q ∧ Pf nd A A_q ∧ Fx sr (sy) A A_q ∧ Fx [14] (vi) A A_q ∧ ((-2147483648 : Int) ≤ r ∧ r ≤ 2147483647) ∧ G_q 9 = ln2 ∧ G_q 10 = at2 ∧ G_q 16 = fk2 ∧ G_q 31 = nd2 ∧ G_q 19 = sy2 ∧ G_q 28 = na2 ∧ G_q 29 = vi2 ∧ A_q 3 (ln2).toNat = lf2 ∧ ecn A_q (G_q 31) = ec2 ∧ (at0 ≤ at2) ∧ (nd ≤ nd2) ∧ (sy ≤ sy2) ∧ (sy2 ≤ na2 + 2) ∧ (vi ≤ vi2) ∧ (vi2 ≤ vi + 1) ∧ (0 ≤ r) ∧ (r ≤ 6999) ∧ (ln ≤ ln2) ∧ (ln2 ≤ li) ∧ (((1 ≤ fk2) ∧ (nd2 - nd ≤ 2 * at2 - (2 * at0 - tz tk0) + 14)) ∨ ((fk2 = 0) ∧ (vi2 = vi) ∧ (ln < ln2) ∧ (nd2 - nd ≤ 2 * at2 - (2 * at0 - tz tk0)) ∧ (at2 < lf2 ∨ li ≤ ln2) ∧ (nd ≤ r) ∧ (r < nd2) ∧ (wSt A_q (sy2) pb (wP A_q (sy2) pb (k)) (Vs) (r) (nd) (nd2) (sy) (sy2)) ∧ (NX A_q (r)) ∧ (nd2 - nd + 5 * (ec2 - ec) ≤ 2 * at2 - (2 * at0 - tz tk0)) ∧ (NdO A_q (nd) (nd2) (sy) (r))))) := by
  have hF0 : Fr [9, 10, 11, 12, 13, 14, 15, 16, 17, 18, 19, 28, 29, 31] [6, 7, 8, 9, 10, 11, 12, 14, 15, 16, 17, 18, 19, 20, 21, 22, 23, 24, 28] G A G A := Fr_rf
  have hP0 : Pf nd A A := Pf_rf
  have hS0 : Fx sr (sy) A A := Fx_rf
  have hV0 : Fx [14] (vi) A A := Fx_rf
  have b_ln : (0 : Int) ≤ ln ∧ ln ≤ 3000 := e_ln ▸ hW.1 9
  have b_li : (0 : Int) ≤ li ∧ li ≤ 3000 := e_li ▸ hW.1 3
  have b_at0 : (0 : Int) ≤ at0 ∧ at0 ≤ 3002 := e_at0 ▸ hW.1 10
  have b_fk : (0 : Int) ≤ fk ∧ fk ≤ 6 := e_fk ▸ hW.1 16
  have b_nd : (0 : Int) ≤ nd ∧ nd ≤ 6999 := e_nd ▸ hW.1 31
  have b_sy : (0 : Int) ≤ sy ∧ sy ≤ 202 := e_sy ▸ hW.1 19
  have b_na : (0 : Int) ≤ na ∧ na ≤ 200 := e_na ▸ hW.1 28
  have b_vi : (0 : Int) ≤ vi ∧ vi ≤ 202 := e_vi ▸ hW.1 29
  have b_le : (0 : Int) ≤ le ∧ le ≤ 3000 := e_le ▸ hW.2 4 _
  have b_op0 : (-2147483648 : Int) ≤ op0 ∧ op0 ≤ 2147483647 := e_op0 ▸ hW.1 15
  have z_tk0 := tz_f tk0
  have b_tk0 : (0 : Int) ≤ tk0 ∧ tk0 ≤ 5 := e_tk0 ▸ hW.1 11
  intro L Gx Ax n at1 tk1 fk1 nd1 op1 sy1 na1 sa1 ka1 ec1 gL_0 gL_1 gL_2 hWx hFx hPx hSx hVx ex_at1 ex_tk1 ex_fk1 ex_nd1 ex_op1 ex_sy1 ex_na1 ex_sa1 ex_ka1 ex_ec1 fx_9 fx_29 rx_n iv_0 iv_1 iv_2 iv_3 iv_4 iv_5 iv_6 iv_7 iv_8 iv_9 iv_10 iv_11 iv_12 iv_13 iv_14
  have b_at1 : (0 : Int) ≤ at1 ∧ at1 ≤ 3002 := ex_at1 ▸ hWx.1 10
  have z_tk1 := tz_f tk1
  have b_tk1 : (0 : Int) ≤ tk1 ∧ tk1 ≤ 5 := ex_tk1 ▸ hWx.1 11
  have b_fk1 : (0 : Int) ≤ fk1 ∧ fk1 ≤ 6 := ex_fk1 ▸ hWx.1 16
  have b_nd1 : (0 : Int) ≤ nd1 ∧ nd1 ≤ 6999 := ex_nd1 ▸ hWx.1 31
  have b_op1 : (-2147483648 : Int) ≤ op1 ∧ op1 ≤ 2147483647 := ex_op1 ▸ hWx.1 15
  have b_sy1 : (0 : Int) ≤ sy1 ∧ sy1 ≤ 202 := ex_sy1 ▸ hWx.1 19
  have b_na1 : (0 : Int) ≤ na1 ∧ na1 ≤ 200 := ex_na1 ▸ hWx.1 28
  refine jx_ld (pc_q := 96) (l_q := L) (st_q := [.ref 66]) rfl (jl_aloadn gL_0) ?_
  refine jr_get (pc_q := 99) (i := 36) (v := .ref 86) rfl rfl (by decide) rfl rfl ?_
  refine jx_ld (pc_q := 100) (l_q := L) (st_q := [.int (i32 (n)), .ref 86]) rfl (jl_iloadn gL_2) ?_
  refine jx_ld (pc_q := 101) (l_q := L) (st_q := [.ref 66, .int (i32 (n)), .ref 86]) rfl (jl_aloadn gL_0) ?_
  refine jx_ar (pc_q := 102) (st_q := [.int (i32 (0)), .ref 66, .int (i32 (n)), .ref 86]) rfl rfl rfl rfl ?_
  refine jx_hp (pc_q := 105) (st_q := [.int (i32 (2147483647)), .int (i32 (0)), .ref 66, .int (i32 (n)), .ref 86]) rfl rfl rfl rfl rfl rfl ?_
  refine jx_vr (pc_q := 108) (as := [.int (i32 (0)), .int (i32 (2147483647))]) (st := [.int (i32 (n)), .ref 86]) rfl rfl rfl rfl ⟨rfl, rfl, Nat.le_of_ble_eq_true rfl⟩ rfl rfl (c_needNumber (dd := d) (hd := by omega) (hW := hWx) (lo := 0) (hi := 2147483647) (ln := ln) (e_ln := show Gx 9 = ln from (fx_9)) (le := le) (e_le := show Ax 4 (ln).toNat = le from (congrFun (hFx.2 4 rfl) _).trans (e_le)) (at0 := at1) (e_at0 := show Gx 10 = at1 from (ex_at1)) (fk := fk1) (e_fk := show Gx 16 = fk1 from (ex_fk1)) (tk0 := tk1) (e_tk0 := show Gx 11 = tk1 from (ex_tk1))  (h_lo := ⟨(by decide), (by decide)⟩) (h_hi := ⟨(by decide), (by decide)⟩)  (p_0 := by omega)) (fun o V_q hq => ?_)
  obtain ⟨G364, A365, r366, at2_367, tk2_368, fk2_369, rfl, rfl, hW370, hF371, b372, e373, e374, e375, p376, p377, q378⟩ := hq
  have hF379 := Fr_tr hFx hF371 (Fr_sub (by decide)) (Fr_sub (by decide))
  have hP380 := Pf_f hPx hF371 (by decide)
  have hS381 := Fx_f hSx hF371 (by decide)
  have hV382 := Fx_f hVx hF371 (by decide)
  have sf383 : ND A365 (n) (29) (sa1) (0) (0) (0) (0) (0) := ND_ag (by omega) (Ag_fr hF371 (by decide)) iv_12
  have sf384 : NdO A365 (nd) (nd1) (sy) (n) := NdO_f hF371 (by decide) iv_14
  have ec385 : ecn A365 (G364 31) = ec1 := (ecn_f (hF371.2 15 rfl) (hF371.1 31 rfl)).trans ex_ec1
  have bat2_367 : (0 : Int) ≤ at2_367 ∧ at2_367 ≤ 3002 := e373 ▸ hW370.1 10
  have ztk2_368 := tz_b tk2_368
  have btk2_368 : (0 : Int) ≤ tk2_368 ∧ tk2_368 ≤ 5 := e374 ▸ hW370.1 11
  have bfk2_369 : (0 : Int) ≤ fk2_369 ∧ fk2_369 ≤ 6 := e375 ▸ hW370.1 16
  refine .inr ⟨_, rfl, ?_⟩
  rcases q378 with ⟨a386, a387, a388, a389⟩ | ⟨a390, a391, a392, a393, a394⟩
  · have _q : True := trivial
    refine jr_st (pc_q := 109) (i := 19) (m := 7000) (z := n) (y := r366) rfl (by decide) rfl (by decide) (by omega) (by omega) rfl ?_
    have hW396 : Wk G364 (uA A365 19 (n).toNat (r366)) := Wk_a hW370 (show (-2147483648 : Int) ≤ r366 by omega) (show r366 ≤ (2147483647 : Int) by omega)
    have hF397 := Fr_a (z := r366) (k := 19) (n := (n).toNat) hF379 (by decide)
    obtain ⟨A395, eA395⟩ : ∃ q, q = uA A365 19 (n).toNat (r366) := ⟨_, rfl⟩
    rw [← eA395]
    rw [← eA395] at hW396 hF397
    have q398 : A395 19 (n).toNat = r366 := by rw [eA395]; exact uA_eq
    have hP399 : Pf nd A A395 := eA395 ▸ Pf_a hP380 (z := n) (by omega) (by omega)
    have hS400 : Fx sr (sy) A A395 := eA395 ▸ Fx_n hS381 rfl
    have hV401 : Fx [14] (vi) A A395 := eA395 ▸ Fx_n hV382 rfl
    have sf402 : ND A395 (n) (29) (sa1) (0) (r366) (0) (0) (0) := ND_c eA395 sf383
    have sf403 : NdO A395 (nd) (nd1) (sy) (n) := NdO_st eA395 (by decide) sf384
    have ec404 : ecn A395 (G364 31) = ec1 := (ecn_e ((congrFun eA395 15).trans (uA_ne (by decide)))).trans ec385
    have z405 := tz_f (tk2_368)
    exact c_readPar_w_at_109p (X := X) (k := k) (hP := hP) (d := d) (Vs := Vs) (sb := sb) (pb := pb) (hvb := hvb) (c0 := c0) (c1 := c1) (G := G) (A := A) (T := T) (lv := lv) (ln := ln) (li := li) (at0 := at0) (fk := fk) (nd := nd) (sy := sy) (na := na) (vi := vi) (le := le) (op0 := op0) (tk0 := tk0) (ec := ec) (hd := hd) (hW := hW) (e_ln := e_ln) (e_li := e_li) (e_at0 := e_at0) (e_fk := e_fk) (e_nd := e_nd) (e_sy := e_sy) (e_na := e_na) (e_vi := e_vi) (e_le := e_le) (e_op0 := e_op0) (e_tk0 := e_tk0) (e_ec := e_ec) (i_LT := i_LT) (i_SV := i_SV) (i_PQ := i_PQ) (h_lv := h_lv) (p_0 := p_0) (p_1 := p_1) (p_2 := p_2) (p_3 := p_3) (p_4 := p_4) (p_5 := p_5) (p_6 := p_6) (p_7 := p_7) (p_8 := p_8) (p_9 := p_9) (p_10 := p_10) L G364 A395 (n) (at2_367) (tk2_368) (fk2_369) (nd1) (op1) (sy1) (na1) (ec1) gL_0 gL_1 gL_2 hW396 hF397 hP399 hS400 hV401 ((e373)) ((e374)) ((e375)) (((hF371.1 31 rfl).trans (ex_nd1))) (((hF371.1 15 rfl).trans (ex_op1))) (((hF371.1 19 rfl).trans (ex_sy1))) (((hF371.1 28 rfl).trans (ex_na1))) (ec404) (((hF371.1 9 rfl).trans (fx_9))) (((hF371.1 29 rfl).trans (fx_29))) (by omega) (by omega) (by omega) (by omega) (by omega) (by omega) (by omega) (by omega) (by omega)
  · have _q : True := trivial
    have pz406 : at1 + tz tk2_368 ≤ at2_367 := by omega
    refine jr_st (pc_q := 109) (i := 19) (m := 7000) (z := n) (y := r366) rfl (by decide) rfl (by decide) (by omega) (by omega) rfl ?_
    have hW408 : Wk G364 (uA A365 19 (n).toNat (r366)) := Wk_a hW370 (show (-2147483648 : Int) ≤ r366 by omega) (show r366 ≤ (2147483647 : Int) by omega)
    have hF409 := Fr_a (z := r366) (k := 19) (n := (n).toNat) hF379 (by decide)
    obtain ⟨A407, eA407⟩ : ∃ q, q = uA A365 19 (n).toNat (r366) := ⟨_, rfl⟩
    rw [← eA407]
    rw [← eA407] at hW408 hF409
    have q410 : A407 19 (n).toNat = r366 := by rw [eA407]; exact uA_eq
    have hP411 : Pf nd A A407 := eA407 ▸ Pf_a hP380 (z := n) (by omega) (by omega)
    have hS412 : Fx sr (sy) A A407 := eA407 ▸ Fx_n hS381 rfl
    have hV413 : Fx [14] (vi) A A407 := eA407 ▸ Fx_n hV382 rfl
    have sf414 : ND A407 (n) (29) (sa1) (0) (r366) (0) (0) (0) := ND_c eA407 sf383
    have sf415 : NdO A407 (nd) (nd1) (sy) (n) := NdO_st eA407 (by decide) sf384
    have ec416 : ecn A407 (G364 31) = ec1 := (ecn_e ((congrFun eA407 15).trans (uA_ne (by decide)))).trans ec385
    have z417 := tz_f (tk2_368)
    exact c_readPar_w_at_109 (X := X) (k := k) (hP := hP) (d := d) (Vs := Vs) (sb := sb) (pb := pb) (hvb := hvb) (c0 := c0) (c1 := c1) (G := G) (A := A) (T := T) (lv := lv) (ln := ln) (li := li) (at0 := at0) (fk := fk) (nd := nd) (sy := sy) (na := na) (vi := vi) (le := le) (op0 := op0) (tk0 := tk0) (ec := ec) (hd := hd) (hW := hW) (e_ln := e_ln) (e_li := e_li) (e_at0 := e_at0) (e_fk := e_fk) (e_nd := e_nd) (e_sy := e_sy) (e_na := e_na) (e_vi := e_vi) (e_le := e_le) (e_op0 := e_op0) (e_tk0 := e_tk0) (e_ec := e_ec) (i_LT := i_LT) (i_SV := i_SV) (i_PQ := i_PQ) (h_lv := h_lv) (p_0 := p_0) (p_1 := p_1) (p_2 := p_2) (p_3 := p_3) (p_4 := p_4) (p_5 := p_5) (p_6 := p_6) (p_7 := p_7) (p_8 := p_8) (p_9 := p_9) (p_10 := p_10) L G364 A407 (n) (at2_367) (tk2_368) (fk2_369) (nd1) (op1) (sy1) (na1) (sa1) (ka1) (r366) (ec1) gL_0 gL_1 gL_2 hW408 hF409 hP411 hS412 hV413 ((e373)) ((e374)) ((e375)) (((hF371.1 31 rfl).trans (ex_nd1))) (((hF371.1 15 rfl).trans (ex_op1))) (((hF371.1 19 rfl).trans (ex_sy1))) (((hF371.1 28 rfl).trans (ex_na1))) ((congrFun (((congrFun eA407 17).trans (uA_ne (by decide))).trans (hF371.2 17 rfl)) _).trans (ex_sa1)) ((congrFun (((congrFun eA407 7).trans (uA_ne (by decide))).trans (hF371.2 7 rfl)) _).trans (ex_ka1)) ((q410)) (ec416) (((hF371.1 9 rfl).trans (fx_9))) (((hF371.1 29 rfl).trans (fx_29))) (by omega) (by omega) (by omega) (by omega) (by omega) (by omega) (by omega) (by omega) (by omega) (by omega) (by omega) (by omega) (sf414) (by omega) (by omega) (by omega) (sf415)
set_option maxRecDepth 20000 in
set_option maxHeartbeats 4000000 in
theorem c_readPar_w_at_85p {X : jX} {k : Nat} (hP : RPw X k) {d : Nat} {Vs : Nat → Prop} {sb pb : Int} (hvb : VB Vs sb) {c0 c1 : jC} {G : Nat → Int} {A : Nat → Nat → Int} {T : jH} {lv : Int} {ln li at0 fk nd sy na vi le op0 tk0 ec : Int} (hd : 8 * k + 82 ≤ d + 1) (hW : Wk G A) (e_ln : G 9 = ln) (e_li : G 3 = li) (e_at0 : G 10 = at0) (e_fk : G 16 = fk) (e_nd : G 31 = nd) (e_sy : G 19 = sy) (e_na : G 28 = na) (e_vi : G 29 = vi) (e_le : A 4 (ln).toNat = le) (e_op0 : G 15 = op0) (e_tk0 : G 11 = tk0) (e_ec : ecn A (G 31) = ec) (i_LT : LT G A) (i_SV : SV Vs sb G A) (i_PQ : PQ Vs sb pb G A) (h_lv : (-2147483648 : Int) ≤ lv ∧ lv ≤ 2147483647) (p_0 : 0 ≤ lv ∧ lv ≤ 15) (p_1 : 18 - lv ≤ ((k + 1 : Nat) : Int)) (p_2 : fk = 0) (p_3 : ln < li) (p_4 : at0 ≤ le) (p_5 : op0 = 0) (p_6 : nd ≤ 2 * at0 - tz tk0 + 30) (p_7 : sy ≤ na + 2) (p_8 : vi ≤ sy) (p_9 : sb = sy) (p_10 : 1 ≤ tk0) : ∀ (L : jL) (Gx : Nat → Int) (Ax : Nat → Nat → Int) (n at1 tk1 fk1 nd1 op1 sy1 na1 ec1 : Int), jGet L 0 = some (.ref 66) → jGet L 1 = some (.int (i32 (lv))) → jGet L 2 = some (.int (i32 n)) → Wk Gx Ax → Fr [9, 10, 11, 12, 13, 14, 15, 16, 17, 18, 19, 28, 29, 31] [6, 7, 8, 9, 10, 11, 12, 14, 15, 16, 17, 18, 19, 20, 21, 22, 23, 24, 28] G A Gx Ax → Pf nd A Ax → Fx sr (sy) A Ax → Fx [14] (vi) A Ax → Gx 10 = at1 → Gx 11 = tk1 → Gx 16 = fk1 → Gx 31 = nd1 → Gx 15 = op1 → Gx 19 = sy1 → Gx 28 = na1 → ecn Ax (Gx 31) = ec1 → Gx 9 = ln → Gx 29 = vi → ((-2147483648 : Int) ≤ n ∧ n ≤ 2147483647) → (1 ≤ fk1) → (at0 ≤ at1) → (at1 ≤ le) → (nd ≤ n ∧ n ≤ 6998 ∧ n < nd1) → (sy ≤ sy1) → (sy1 ≤ na1 + 2) → (0 ≤ op1 ∧ op1 ≤ 9) → (nd1 - nd ≤ 2 * at1 - 2 * at0 + 8) → wj X d jm299 (85, L, [], rV c0 c1 Gx Ax T) (fun o V_q => ∃ (G_q : Nat → Int) (A_q : Nat → Nat → Int) (r : Int) (ln2 : Int) (at2 : Int) (fk2 : Int) (nd2 : Int) (sy2 : Int) (na2 : Int) (vi2 : Int) (lf2 : Int) (ec2 : Int), V_q = rV c0 c1 G_q A_q T ∧ o = .inl (some (.int (i32 r))) ∧ Wk G_q A_q ∧ Fr [9, 10, 11, 12, 13, 14, 15, 16, 17, 18, 19, 28, 29, 31] [6, 7, 8, 9, 10, 11, 12, 14, 15, 16, 17, 18, 19, 20, 21, 22, 23, 24, 28] G A G_q A_q ∧ Pf nd A A_q ∧ Fx sr (sy) A A_q ∧ Fx [14] (vi) A A_q ∧ ((-2147483648 : Int) ≤ r ∧ r ≤ 2147483647) ∧ G_q 9 = ln2 ∧ G_q 10 = at2 ∧ G_q 16 = fk2 ∧ G_q 31 = nd2 ∧ G_q 19 = sy2 ∧ G_q 28 = na2 ∧ G_q 29 = vi2 ∧ A_q 3 (ln2).toNat = lf2 ∧ ecn A_q (G_q 31) = ec2 ∧ (at0 ≤ at2) ∧ (nd ≤ nd2) ∧ (sy ≤ sy2) ∧ (sy2 ≤ na2 + 2) ∧ (vi ≤ vi2) ∧ (vi2 ≤ vi + 1) ∧ (0 ≤ r) ∧ (r ≤ 6999) ∧ (ln ≤ ln2) ∧ (ln2 ≤ li) ∧ (((1 ≤ fk2) ∧ (nd2 - nd ≤ 2 * at2 - (2 * at0 - tz tk0) + 14)) ∨ ((fk2 = 0) ∧ (vi2 = vi) ∧ (ln < ln2) ∧ (nd2 - nd ≤ 2 * at2 - (2 * at0 - tz tk0)) ∧ (at2 < lf2 ∨ li ≤ ln2) ∧ (nd ≤ r) ∧ (r < nd2) ∧ (wSt A_q (sy2) pb (wP A_q (sy2) pb (k)) (Vs) (r) (nd) (nd2) (sy) (sy2)) ∧ (NX A_q (r)) ∧ (nd2 - nd + 5 * (ec2 - ec) ≤ 2 * at2 - (2 * at0 - tz tk0)) ∧ (NdO A_q (nd) (nd2) (sy) (r))))) := by
  have hF0 : Fr [9, 10, 11, 12, 13, 14, 15, 16, 17, 18, 19, 28, 29, 31] [6, 7, 8, 9, 10, 11, 12, 14, 15, 16, 17, 18, 19, 20, 21, 22, 23, 24, 28] G A G A := Fr_rf
  have hP0 : Pf nd A A := Pf_rf
  have hS0 : Fx sr (sy) A A := Fx_rf
  have hV0 : Fx [14] (vi) A A := Fx_rf
  have b_ln : (0 : Int) ≤ ln ∧ ln ≤ 3000 := e_ln ▸ hW.1 9
  have b_li : (0 : Int) ≤ li ∧ li ≤ 3000 := e_li ▸ hW.1 3
  have b_at0 : (0 : Int) ≤ at0 ∧ at0 ≤ 3002 := e_at0 ▸ hW.1 10
  have b_fk : (0 : Int) ≤ fk ∧ fk ≤ 6 := e_fk ▸ hW.1 16
  have b_nd : (0 : Int) ≤ nd ∧ nd ≤ 6999 := e_nd ▸ hW.1 31
  have b_sy : (0 : Int) ≤ sy ∧ sy ≤ 202 := e_sy ▸ hW.1 19
  have b_na : (0 : Int) ≤ na ∧ na ≤ 200 := e_na ▸ hW.1 28
  have b_vi : (0 : Int) ≤ vi ∧ vi ≤ 202 := e_vi ▸ hW.1 29
  have b_le : (0 : Int) ≤ le ∧ le ≤ 3000 := e_le ▸ hW.2 4 _
  have b_op0 : (-2147483648 : Int) ≤ op0 ∧ op0 ≤ 2147483647 := e_op0 ▸ hW.1 15
  have z_tk0 := tz_f tk0
  have b_tk0 : (0 : Int) ≤ tk0 ∧ tk0 ≤ 5 := e_tk0 ▸ hW.1 11
  intro L Gx Ax n at1 tk1 fk1 nd1 op1 sy1 na1 ec1 gL_0 gL_1 gL_2 hWx hFx hPx hSx hVx ex_at1 ex_tk1 ex_fk1 ex_nd1 ex_op1 ex_sy1 ex_na1 ex_ec1 fx_9 fx_29 rx_n iv_0 iv_1 iv_2 iv_3 iv_4 iv_5 iv_6 iv_7
  have b_at1 : (0 : Int) ≤ at1 ∧ at1 ≤ 3002 := ex_at1 ▸ hWx.1 10
  have z_tk1 := tz_f tk1
  have b_tk1 : (0 : Int) ≤ tk1 ∧ tk1 ≤ 5 := ex_tk1 ▸ hWx.1 11
  have b_fk1 : (0 : Int) ≤ fk1 ∧ fk1 ≤ 6 := ex_fk1 ▸ hWx.1 16
  have b_nd1 : (0 : Int) ≤ nd1 ∧ nd1 ≤ 6999 := ex_nd1 ▸ hWx.1 31
  have b_op1 : (-2147483648 : Int) ≤ op1 ∧ op1 ≤ 2147483647 := ex_op1 ▸ hWx.1 15
  have b_sy1 : (0 : Int) ≤ sy1 ∧ sy1 ≤ 202 := ex_sy1 ▸ hWx.1 19
  have b_na1 : (0 : Int) ≤ na1 ∧ na1 ≤ 200 := ex_na1 ▸ hWx.1 28
  refine jx_ld (pc_q := 86) (l_q := L) (st_q := [.ref 66]) rfl (jl_aloadn gL_0) ?_
  refine jx_ld (pc_q := 87) (l_q := L) (st_q := [.ref 66, .ref 66]) rfl (jl_aloadn gL_0) ?_
  refine jx_ar (pc_q := 89) (st_q := [.int (i32 (61)), .ref 66, .ref 66]) rfl rfl rfl rfl ?_
  have b418 : (-2147483648 : Int) ≤ Gx 13 ∧ Gx 13 ≤ 2147483647 := hWx.1 13
  refine jx_vr (pc_q := 92) (as := [.int (i32 (61))]) (st := [.ref 66]) rfl rfl rfl rfl ⟨rfl, rfl, Nat.le_of_ble_eq_true rfl⟩ rfl rfl (c_is (dd := d) (hd := by omega) (hW := hWx) (k := 61) (tk := tk1) (e_tk := show Gx 11 = tk1 from (ex_tk1)) (tn := Gx 13) (e_tn := show Gx 13 = Gx 13 from rfl)  (h_k := ⟨(by decide), (by decide)⟩)  ) (fun o V_q hq => ?_)
  obtain ⟨r419, rfl, rfl, b420, q421⟩ := hq
  refine .inr ⟨_, rfl, ?_⟩
  rcases q421 with ⟨rfl, a422, a423, a424⟩ | rfl
  · have _q : True := trivial
    refine jx_vr (pc_q := 95) (as := [.int (i32 (1))]) (st := []) rfl rfl rfl rfl ⟨rfl, rfl, Nat.le_of_ble_eq_true rfl⟩ rfl rfl (c_need (dd := d) (hd := by omega) (hW := hWx) (g := 1) (ln := ln) (e_ln := show Gx 9 = ln from (fx_9)) (le := le) (e_le := show Ax 4 (ln).toNat = le from (congrFun (hFx.2 4 rfl) _).trans (e_le)) (at0 := at1) (e_at0 := show Gx 10 = at1 from (ex_at1)) (fk := fk1) (e_fk := show Gx 16 = fk1 from (ex_fk1)) (tk0 := tk1) (e_tk0 := show Gx 11 = tk1 from (ex_tk1))  (h_g := ⟨(by decide), (by decide)⟩)  (p_0 := by omega)) (fun o V_q hq => ?_)
    obtain ⟨G425, A426, at2_427, tk2_428, fk2_429, rfl, rfl, hW430, hF431, e432, e433, e434, p435, p436, q437⟩ := hq
    have hF438 := Fr_tr hFx hF431 (Fr_sub (by decide)) (Fr_sub (by decide))
    have hP439 := Pf_f hPx hF431 (by decide)
    have hS440 := Fx_f hSx hF431 (by decide)
    have hV441 := Fx_f hVx hF431 (by decide)
    have ec442 : ecn A426 (G425 31) = ec1 := (ecn_f (hF431.2 15 rfl) (hF431.1 31 rfl)).trans ex_ec1
    have bat2_427 : (0 : Int) ≤ at2_427 ∧ at2_427 ≤ 3002 := e432 ▸ hW430.1 10
    have ztk2_428 := tz_b tk2_428
    have btk2_428 : (0 : Int) ≤ tk2_428 ∧ tk2_428 ≤ 5 := e433 ▸ hW430.1 11
    have bfk2_429 : (0 : Int) ≤ fk2_429 ∧ fk2_429 ≤ 6 := e434 ▸ hW430.1 16
    refine .inl ⟨rfl, ?_⟩
    rcases q437 with ⟨a443, a444, a445, a446⟩ | ⟨a447, a448, a449, a450⟩
    · have _q : True := trivial
      have z451 := tz_f (tk2_428)
      exact c_readPar_w_at_95p (X := X) (k := k) (hP := hP) (d := d) (Vs := Vs) (sb := sb) (pb := pb) (hvb := hvb) (c0 := c0) (c1 := c1) (G := G) (A := A) (T := T) (lv := lv) (ln := ln) (li := li) (at0 := at0) (fk := fk) (nd := nd) (sy := sy) (na := na) (vi := vi) (le := le) (op0 := op0) (tk0 := tk0) (ec := ec) (hd := hd) (hW := hW) (e_ln := e_ln) (e_li := e_li) (e_at0 := e_at0) (e_fk := e_fk) (e_nd := e_nd) (e_sy := e_sy) (e_na := e_na) (e_vi := e_vi) (e_le := e_le) (e_op0 := e_op0) (e_tk0 := e_tk0) (e_ec := e_ec) (i_LT := i_LT) (i_SV := i_SV) (i_PQ := i_PQ) (h_lv := h_lv) (p_0 := p_0) (p_1 := p_1) (p_2 := p_2) (p_3 := p_3) (p_4 := p_4) (p_5 := p_5) (p_6 := p_6) (p_7 := p_7) (p_8 := p_8) (p_9 := p_9) (p_10 := p_10) L G425 A426 (n) (at2_427) (tk2_428) (fk2_429) (nd1) (op1) (sy1) (na1) (ec1) gL_0 gL_1 gL_2 hW430 hF438 hP439 hS440 hV441 ((e432)) ((e433)) ((e434)) (((hF431.1 31 rfl).trans (ex_nd1))) (((hF431.1 15 rfl).trans (ex_op1))) (((hF431.1 19 rfl).trans (ex_sy1))) (((hF431.1 28 rfl).trans (ex_na1))) (ec442) (((hF431.1 9 rfl).trans (fx_9))) (((hF431.1 29 rfl).trans (fx_29))) (by omega) (by omega) (by omega) (by omega) (by omega) (by omega) (by omega) (by omega) (by omega)
    · have _q : True := trivial
      exfalso
      omega
  · have _q : True := trivial
    refine jx_vr (pc_q := 95) (as := [.int (i32 (0))]) (st := []) rfl rfl rfl rfl ⟨rfl, rfl, Nat.le_of_ble_eq_true rfl⟩ rfl rfl (c_need (dd := d) (hd := by omega) (hW := hWx) (g := 0) (ln := ln) (e_ln := show Gx 9 = ln from (fx_9)) (le := le) (e_le := show Ax 4 (ln).toNat = le from (congrFun (hFx.2 4 rfl) _).trans (e_le)) (at0 := at1) (e_at0 := show Gx 10 = at1 from (ex_at1)) (fk := fk1) (e_fk := show Gx 16 = fk1 from (ex_fk1)) (tk0 := tk1) (e_tk0 := show Gx 11 = tk1 from (ex_tk1))  (h_g := ⟨(by decide), (by decide)⟩)  (p_0 := by omega)) (fun o V_q hq => ?_)
    obtain ⟨G452, A453, at2_454, tk2_455, fk2_456, rfl, rfl, hW457, hF458, e459, e460, e461, p462, p463, q464⟩ := hq
    have hF465 := Fr_tr hFx hF458 (Fr_sub (by decide)) (Fr_sub (by decide))
    have hP466 := Pf_f hPx hF458 (by decide)
    have hS467 := Fx_f hSx hF458 (by decide)
    have hV468 := Fx_f hVx hF458 (by decide)
    have ec469 : ecn A453 (G452 31) = ec1 := (ecn_f (hF458.2 15 rfl) (hF458.1 31 rfl)).trans ex_ec1
    have bat2_454 : (0 : Int) ≤ at2_454 ∧ at2_454 ≤ 3002 := e459 ▸ hW457.1 10
    have ztk2_455 := tz_b tk2_455
    have btk2_455 : (0 : Int) ≤ tk2_455 ∧ tk2_455 ≤ 5 := e460 ▸ hW457.1 11
    have bfk2_456 : (0 : Int) ≤ fk2_456 ∧ fk2_456 ≤ 6 := e461 ▸ hW457.1 16
    refine .inl ⟨rfl, ?_⟩
    rcases q464 with ⟨a470, a471, a472, a473⟩ | ⟨a474, a475, a476, a477⟩
    · have _q : True := trivial
      have z478 := tz_f (tk2_455)
      exact c_readPar_w_at_95p (X := X) (k := k) (hP := hP) (d := d) (Vs := Vs) (sb := sb) (pb := pb) (hvb := hvb) (c0 := c0) (c1 := c1) (G := G) (A := A) (T := T) (lv := lv) (ln := ln) (li := li) (at0 := at0) (fk := fk) (nd := nd) (sy := sy) (na := na) (vi := vi) (le := le) (op0 := op0) (tk0 := tk0) (ec := ec) (hd := hd) (hW := hW) (e_ln := e_ln) (e_li := e_li) (e_at0 := e_at0) (e_fk := e_fk) (e_nd := e_nd) (e_sy := e_sy) (e_na := e_na) (e_vi := e_vi) (e_le := e_le) (e_op0 := e_op0) (e_tk0 := e_tk0) (e_ec := e_ec) (i_LT := i_LT) (i_SV := i_SV) (i_PQ := i_PQ) (h_lv := h_lv) (p_0 := p_0) (p_1 := p_1) (p_2 := p_2) (p_3 := p_3) (p_4 := p_4) (p_5 := p_5) (p_6 := p_6) (p_7 := p_7) (p_8 := p_8) (p_9 := p_9) (p_10 := p_10) L G452 A453 (n) (at2_454) (tk2_455) (fk2_456) (nd1) (op1) (sy1) (na1) (ec1) gL_0 gL_1 gL_2 hW457 hF465 hP466 hS467 hV468 ((e459)) ((e460)) ((e461)) (((hF458.1 31 rfl).trans (ex_nd1))) (((hF458.1 15 rfl).trans (ex_op1))) (((hF458.1 19 rfl).trans (ex_sy1))) (((hF458.1 28 rfl).trans (ex_na1))) (ec469) (((hF458.1 9 rfl).trans (fx_9))) (((hF458.1 29 rfl).trans (fx_29))) (by omega) (by omega) (by omega) (by omega) (by omega) (by omega) (by omega) (by omega) (by omega)
    · have _q : True := trivial
      exfalso
      omega
set_option maxRecDepth 20000 in
set_option maxHeartbeats 4000000 in
theorem c_readPar_w_at_85 {X : jX} {k : Nat} (hP : RPw X k) {d : Nat} {Vs : Nat → Prop} {sb pb : Int} (hvb : VB Vs sb) {c0 c1 : jC} {G : Nat → Int} {A : Nat → Nat → Int} {T : jH} {lv : Int} {ln li at0 fk nd sy na vi le op0 tk0 ec : Int} (hd : 8 * k + 82 ≤ d + 1) (hW : Wk G A) (e_ln : G 9 = ln) (e_li : G 3 = li) (e_at0 : G 10 = at0) (e_fk : G 16 = fk) (e_nd : G 31 = nd) (e_sy : G 19 = sy) (e_na : G 28 = na) (e_vi : G 29 = vi) (e_le : A 4 (ln).toNat = le) (e_op0 : G 15 = op0) (e_tk0 : G 11 = tk0) (e_ec : ecn A (G 31) = ec) (i_LT : LT G A) (i_SV : SV Vs sb G A) (i_PQ : PQ Vs sb pb G A) (h_lv : (-2147483648 : Int) ≤ lv ∧ lv ≤ 2147483647) (p_0 : 0 ≤ lv ∧ lv ≤ 15) (p_1 : 18 - lv ≤ ((k + 1 : Nat) : Int)) (p_2 : fk = 0) (p_3 : ln < li) (p_4 : at0 ≤ le) (p_5 : op0 = 0) (p_6 : nd ≤ 2 * at0 - tz tk0 + 30) (p_7 : sy ≤ na + 2) (p_8 : vi ≤ sy) (p_9 : sb = sy) (p_10 : 1 ≤ tk0) : ∀ (L : jL) (Gx : Nat → Int) (Ax : Nat → Nat → Int) (n at1 tk1 fk1 nd1 op1 sy1 na1 sa1 ka1 ec1 : Int), jGet L 0 = some (.ref 66) → jGet L 1 = some (.int (i32 (lv))) → jGet L 2 = some (.int (i32 n)) → Wk Gx Ax → Fr [9, 10, 11, 12, 13, 14, 15, 16, 17, 18, 19, 28, 29, 31] [6, 7, 8, 9, 10, 11, 12, 14, 15, 16, 17, 18, 19, 20, 21, 22, 23, 24, 28] G A Gx Ax → Pf nd A Ax → Fx sr (sy) A Ax → Fx [14] (vi) A Ax → Gx 10 = at1 → Gx 11 = tk1 → Gx 16 = fk1 → Gx 31 = nd1 → Gx 15 = op1 → Gx 19 = sy1 → Gx 28 = na1 → Ax 17 (n).toNat = sa1 → Ax 7 (sa1).toNat = ka1 → ecn Ax (Gx 31) = ec1 → Gx 9 = ln → Gx 29 = vi → ((-2147483648 : Int) ≤ n ∧ n ≤ 2147483647) → (fk1 = 0) → (at0 ≤ at1) → (at1 ≤ le) → (n = nd) → (n ≤ 6998 ∧ n < nd1) → (sy1 = sy + 1) → (sa1 = sy) → (sy1 ≤ na1 + 2) → (op1 = 0) → (nd1 - nd ≤ (2 * at1 - tz tk1) - (2 * at0 - tz tk0)) → (ka1 = 10) → (nd1 = n + 1) → (ND Ax (n) (29) (sa1) (0) (0) (0) (0) (0)) → (nd1 - nd + 5 * (ec1 - ec) ≤ (2 * at1 - tz tk1) - (2 * at0 - tz tk0)) → (NdO Ax (nd) (nd1) (sy) (n)) → wj X d jm299 (85, L, [], rV c0 c1 Gx Ax T) (fun o V_q => ∃ (G_q : Nat → Int) (A_q : Nat → Nat → Int) (r : Int) (ln2 : Int) (at2 : Int) (fk2 : Int) (nd2 : Int) (sy2 : Int) (na2 : Int) (vi2 : Int) (lf2 : Int) (ec2 : Int), V_q = rV c0 c1 G_q A_q T ∧ o = .inl (some (.int (i32 r))) ∧ Wk G_q A_q ∧ Fr [9, 10, 11, 12, 13, 14, 15, 16, 17, 18, 19, 28, 29, 31] [6, 7, 8, 9, 10, 11, 12, 14, 15, 16, 17, 18, 19, 20, 21, 22, 23, 24, 28] G A G_q A_q ∧ Pf nd A A_q ∧ Fx sr (sy) A A_q ∧ Fx [14] (vi) A A_q ∧ ((-2147483648 : Int) ≤ r ∧ r ≤ 2147483647) ∧ G_q 9 = ln2 ∧ G_q 10 = at2 ∧ G_q 16 = fk2 ∧ G_q 31 = nd2 ∧ G_q 19 = sy2 ∧ G_q 28 = na2 ∧ G_q 29 = vi2 ∧ A_q 3 (ln2).toNat = lf2 ∧ ecn A_q (G_q 31) = ec2 ∧ (at0 ≤ at2) ∧ (nd ≤ nd2) ∧ (sy ≤ sy2) ∧ (sy2 ≤ na2 + 2) ∧ (vi ≤ vi2) ∧ (vi2 ≤ vi + 1) ∧ (0 ≤ r) ∧ (r ≤ 6999) ∧ (ln ≤ ln2) ∧ (ln2 ≤ li) ∧ (((1 ≤ fk2) ∧ (nd2 - nd ≤ 2 * at2 - (2 * at0 - tz tk0) + 14)) ∨ ((fk2 = 0) ∧ (vi2 = vi) ∧ (ln < ln2) ∧ (nd2 - nd ≤ 2 * at2 - (2 * at0 - tz tk0)) ∧ (at2 < lf2 ∨ li ≤ ln2) ∧ (nd ≤ r) ∧ (r < nd2) ∧ (wSt A_q (sy2) pb (wP A_q (sy2) pb (k)) (Vs) (r) (nd) (nd2) (sy) (sy2)) ∧ (NX A_q (r)) ∧ (nd2 - nd + 5 * (ec2 - ec) ≤ 2 * at2 - (2 * at0 - tz tk0)) ∧ (NdO A_q (nd) (nd2) (sy) (r))))) := by
  have hF0 : Fr [9, 10, 11, 12, 13, 14, 15, 16, 17, 18, 19, 28, 29, 31] [6, 7, 8, 9, 10, 11, 12, 14, 15, 16, 17, 18, 19, 20, 21, 22, 23, 24, 28] G A G A := Fr_rf
  have hP0 : Pf nd A A := Pf_rf
  have hS0 : Fx sr (sy) A A := Fx_rf
  have hV0 : Fx [14] (vi) A A := Fx_rf
  have b_ln : (0 : Int) ≤ ln ∧ ln ≤ 3000 := e_ln ▸ hW.1 9
  have b_li : (0 : Int) ≤ li ∧ li ≤ 3000 := e_li ▸ hW.1 3
  have b_at0 : (0 : Int) ≤ at0 ∧ at0 ≤ 3002 := e_at0 ▸ hW.1 10
  have b_fk : (0 : Int) ≤ fk ∧ fk ≤ 6 := e_fk ▸ hW.1 16
  have b_nd : (0 : Int) ≤ nd ∧ nd ≤ 6999 := e_nd ▸ hW.1 31
  have b_sy : (0 : Int) ≤ sy ∧ sy ≤ 202 := e_sy ▸ hW.1 19
  have b_na : (0 : Int) ≤ na ∧ na ≤ 200 := e_na ▸ hW.1 28
  have b_vi : (0 : Int) ≤ vi ∧ vi ≤ 202 := e_vi ▸ hW.1 29
  have b_le : (0 : Int) ≤ le ∧ le ≤ 3000 := e_le ▸ hW.2 4 _
  have b_op0 : (-2147483648 : Int) ≤ op0 ∧ op0 ≤ 2147483647 := e_op0 ▸ hW.1 15
  have z_tk0 := tz_f tk0
  have b_tk0 : (0 : Int) ≤ tk0 ∧ tk0 ≤ 5 := e_tk0 ▸ hW.1 11
  intro L Gx Ax n at1 tk1 fk1 nd1 op1 sy1 na1 sa1 ka1 ec1 gL_0 gL_1 gL_2 hWx hFx hPx hSx hVx ex_at1 ex_tk1 ex_fk1 ex_nd1 ex_op1 ex_sy1 ex_na1 ex_sa1 ex_ka1 ex_ec1 fx_9 fx_29 rx_n iv_0 iv_1 iv_2 iv_3 iv_4 iv_5 iv_6 iv_7 iv_8 iv_9 iv_10 iv_11 iv_12 iv_13 iv_14
  have b_at1 : (0 : Int) ≤ at1 ∧ at1 ≤ 3002 := ex_at1 ▸ hWx.1 10
  have z_tk1 := tz_f tk1
  have b_tk1 : (0 : Int) ≤ tk1 ∧ tk1 ≤ 5 := ex_tk1 ▸ hWx.1 11
  have b_fk1 : (0 : Int) ≤ fk1 ∧ fk1 ≤ 6 := ex_fk1 ▸ hWx.1 16
  have b_nd1 : (0 : Int) ≤ nd1 ∧ nd1 ≤ 6999 := ex_nd1 ▸ hWx.1 31
  have b_op1 : (-2147483648 : Int) ≤ op1 ∧ op1 ≤ 2147483647 := ex_op1 ▸ hWx.1 15
  have b_sy1 : (0 : Int) ≤ sy1 ∧ sy1 ≤ 202 := ex_sy1 ▸ hWx.1 19
  have b_na1 : (0 : Int) ≤ na1 ∧ na1 ≤ 200 := ex_na1 ▸ hWx.1 28
  refine jx_ld (pc_q := 86) (l_q := L) (st_q := [.ref 66]) rfl (jl_aloadn gL_0) ?_
  refine jx_ld (pc_q := 87) (l_q := L) (st_q := [.ref 66, .ref 66]) rfl (jl_aloadn gL_0) ?_
  refine jx_ar (pc_q := 89) (st_q := [.int (i32 (61)), .ref 66, .ref 66]) rfl rfl rfl rfl ?_
  have b479 : (-2147483648 : Int) ≤ Gx 13 ∧ Gx 13 ≤ 2147483647 := hWx.1 13
  refine jx_vr (pc_q := 92) (as := [.int (i32 (61))]) (st := [.ref 66]) rfl rfl rfl rfl ⟨rfl, rfl, Nat.le_of_ble_eq_true rfl⟩ rfl rfl (c_is (dd := d) (hd := by omega) (hW := hWx) (k := 61) (tk := tk1) (e_tk := show Gx 11 = tk1 from (ex_tk1)) (tn := Gx 13) (e_tn := show Gx 13 = Gx 13 from rfl)  (h_k := ⟨(by decide), (by decide)⟩)  ) (fun o V_q hq => ?_)
  obtain ⟨r480, rfl, rfl, b481, q482⟩ := hq
  refine .inr ⟨_, rfl, ?_⟩
  rcases q482 with ⟨rfl, a483, a484, a485⟩ | rfl
  · have _q : True := trivial
    refine jx_vr (pc_q := 95) (as := [.int (i32 (1))]) (st := []) rfl rfl rfl rfl ⟨rfl, rfl, Nat.le_of_ble_eq_true rfl⟩ rfl rfl (c_need (dd := d) (hd := by omega) (hW := hWx) (g := 1) (ln := ln) (e_ln := show Gx 9 = ln from (fx_9)) (le := le) (e_le := show Ax 4 (ln).toNat = le from (congrFun (hFx.2 4 rfl) _).trans (e_le)) (at0 := at1) (e_at0 := show Gx 10 = at1 from (ex_at1)) (fk := fk1) (e_fk := show Gx 16 = fk1 from (ex_fk1)) (tk0 := tk1) (e_tk0 := show Gx 11 = tk1 from (ex_tk1))  (h_g := ⟨(by decide), (by decide)⟩)  (p_0 := by omega)) (fun o V_q hq => ?_)
    obtain ⟨G486, A487, at2_488, tk2_489, fk2_490, rfl, rfl, hW491, hF492, e493, e494, e495, p496, p497, q498⟩ := hq
    have hF499 := Fr_tr hFx hF492 (Fr_sub (by decide)) (Fr_sub (by decide))
    have hP500 := Pf_f hPx hF492 (by decide)
    have hS501 := Fx_f hSx hF492 (by decide)
    have hV502 := Fx_f hVx hF492 (by decide)
    have sf503 : ND A487 (n) (29) (sa1) (0) (0) (0) (0) (0) := ND_ag (by omega) (Ag_fr hF492 (by decide)) iv_12
    have sf504 : NdO A487 (nd) (nd1) (sy) (n) := NdO_f hF492 (by decide) iv_14
    have ec505 : ecn A487 (G486 31) = ec1 := (ecn_f (hF492.2 15 rfl) (hF492.1 31 rfl)).trans ex_ec1
    have bat2_488 : (0 : Int) ≤ at2_488 ∧ at2_488 ≤ 3002 := e493 ▸ hW491.1 10
    have ztk2_489 := tz_b tk2_489
    have btk2_489 : (0 : Int) ≤ tk2_489 ∧ tk2_489 ≤ 5 := e494 ▸ hW491.1 11
    have bfk2_490 : (0 : Int) ≤ fk2_490 ∧ fk2_490 ≤ 6 := e495 ▸ hW491.1 16
    refine .inl ⟨rfl, ?_⟩
    rcases q498 with ⟨a506, a507, a508, a509⟩ | ⟨a510, a511, a512, a513⟩
    · have _q : True := trivial
      have z514 := tz_f (tk2_489)
      exact c_readPar_w_at_95p (X := X) (k := k) (hP := hP) (d := d) (Vs := Vs) (sb := sb) (pb := pb) (hvb := hvb) (c0 := c0) (c1 := c1) (G := G) (A := A) (T := T) (lv := lv) (ln := ln) (li := li) (at0 := at0) (fk := fk) (nd := nd) (sy := sy) (na := na) (vi := vi) (le := le) (op0 := op0) (tk0 := tk0) (ec := ec) (hd := hd) (hW := hW) (e_ln := e_ln) (e_li := e_li) (e_at0 := e_at0) (e_fk := e_fk) (e_nd := e_nd) (e_sy := e_sy) (e_na := e_na) (e_vi := e_vi) (e_le := e_le) (e_op0 := e_op0) (e_tk0 := e_tk0) (e_ec := e_ec) (i_LT := i_LT) (i_SV := i_SV) (i_PQ := i_PQ) (h_lv := h_lv) (p_0 := p_0) (p_1 := p_1) (p_2 := p_2) (p_3 := p_3) (p_4 := p_4) (p_5 := p_5) (p_6 := p_6) (p_7 := p_7) (p_8 := p_8) (p_9 := p_9) (p_10 := p_10) L G486 A487 (n) (at2_488) (tk2_489) (fk2_490) (nd1) (op1) (sy1) (na1) (ec1) gL_0 gL_1 gL_2 hW491 hF499 hP500 hS501 hV502 ((e493)) ((e494)) ((e495)) (((hF492.1 31 rfl).trans (ex_nd1))) (((hF492.1 15 rfl).trans (ex_op1))) (((hF492.1 19 rfl).trans (ex_sy1))) (((hF492.1 28 rfl).trans (ex_na1))) (ec505) (((hF492.1 9 rfl).trans (fx_9))) (((hF492.1 29 rfl).trans (fx_29))) (by omega) (by omega) (by omega) (by omega) (by omega) (by omega) (by omega) (by omega) (by omega)
    · have _q : True := trivial
      have pz515 : at1 + tz tk2_489 ≤ at2_488 := by omega
      have z516 := tz_f (tk2_489)
      exact c_readPar_w_at_95 (X := X) (k := k) (hP := hP) (d := d) (Vs := Vs) (sb := sb) (pb := pb) (hvb := hvb) (c0 := c0) (c1 := c1) (G := G) (A := A) (T := T) (lv := lv) (ln := ln) (li := li) (at0 := at0) (fk := fk) (nd := nd) (sy := sy) (na := na) (vi := vi) (le := le) (op0 := op0) (tk0 := tk0) (ec := ec) (hd := hd) (hW := hW) (e_ln := e_ln) (e_li := e_li) (e_at0 := e_at0) (e_fk := e_fk) (e_nd := e_nd) (e_sy := e_sy) (e_na := e_na) (e_vi := e_vi) (e_le := e_le) (e_op0 := e_op0) (e_tk0 := e_tk0) (e_ec := e_ec) (i_LT := i_LT) (i_SV := i_SV) (i_PQ := i_PQ) (h_lv := h_lv) (p_0 := p_0) (p_1 := p_1) (p_2 := p_2) (p_3 := p_3) (p_4 := p_4) (p_5 := p_5) (p_6 := p_6) (p_7 := p_7) (p_8 := p_8) (p_9 := p_9) (p_10 := p_10) L G486 A487 (n) (at2_488) (tk2_489) (fk2_490) (nd1) (op1) (sy1) (na1) (sa1) (ka1) (ec1) gL_0 gL_1 gL_2 hW491 hF499 hP500 hS501 hV502 ((e493)) ((e494)) ((e495)) (((hF492.1 31 rfl).trans (ex_nd1))) (((hF492.1 15 rfl).trans (ex_op1))) (((hF492.1 19 rfl).trans (ex_sy1))) (((hF492.1 28 rfl).trans (ex_na1))) ((congrFun (hF492.2 17 rfl) _).trans (ex_sa1)) ((congrFun (hF492.2 7 rfl) _).trans (ex_ka1)) (ec505) (((hF492.1 9 rfl).trans (fx_9))) (((hF492.1 29 rfl).trans (fx_29))) (by omega) (by omega) (by omega) (by omega) (by omega) (by omega) (by omega) (by omega) (by omega) (by omega) (by omega) (by omega) (by omega) (sf503) (by omega) (sf504)
  · have _q : True := trivial
    refine jx_vr (pc_q := 95) (as := [.int (i32 (0))]) (st := []) rfl rfl rfl rfl ⟨rfl, rfl, Nat.le_of_ble_eq_true rfl⟩ rfl rfl (c_need (dd := d) (hd := by omega) (hW := hWx) (g := 0) (ln := ln) (e_ln := show Gx 9 = ln from (fx_9)) (le := le) (e_le := show Ax 4 (ln).toNat = le from (congrFun (hFx.2 4 rfl) _).trans (e_le)) (at0 := at1) (e_at0 := show Gx 10 = at1 from (ex_at1)) (fk := fk1) (e_fk := show Gx 16 = fk1 from (ex_fk1)) (tk0 := tk1) (e_tk0 := show Gx 11 = tk1 from (ex_tk1))  (h_g := ⟨(by decide), (by decide)⟩)  (p_0 := by omega)) (fun o V_q hq => ?_)
    obtain ⟨G517, A518, at2_519, tk2_520, fk2_521, rfl, rfl, hW522, hF523, e524, e525, e526, p527, p528, q529⟩ := hq
    have hF530 := Fr_tr hFx hF523 (Fr_sub (by decide)) (Fr_sub (by decide))
    have hP531 := Pf_f hPx hF523 (by decide)
    have hS532 := Fx_f hSx hF523 (by decide)
    have hV533 := Fx_f hVx hF523 (by decide)
    have sf534 : ND A518 (n) (29) (sa1) (0) (0) (0) (0) (0) := ND_ag (by omega) (Ag_fr hF523 (by decide)) iv_12
    have sf535 : NdO A518 (nd) (nd1) (sy) (n) := NdO_f hF523 (by decide) iv_14
    have ec536 : ecn A518 (G517 31) = ec1 := (ecn_f (hF523.2 15 rfl) (hF523.1 31 rfl)).trans ex_ec1
    have bat2_519 : (0 : Int) ≤ at2_519 ∧ at2_519 ≤ 3002 := e524 ▸ hW522.1 10
    have ztk2_520 := tz_b tk2_520
    have btk2_520 : (0 : Int) ≤ tk2_520 ∧ tk2_520 ≤ 5 := e525 ▸ hW522.1 11
    have bfk2_521 : (0 : Int) ≤ fk2_521 ∧ fk2_521 ≤ 6 := e526 ▸ hW522.1 16
    refine .inl ⟨rfl, ?_⟩
    rcases q529 with ⟨a537, a538, a539, a540⟩ | ⟨a541, a542, a543, a544⟩
    · have _q : True := trivial
      have z545 := tz_f (tk2_520)
      exact c_readPar_w_at_95p (X := X) (k := k) (hP := hP) (d := d) (Vs := Vs) (sb := sb) (pb := pb) (hvb := hvb) (c0 := c0) (c1 := c1) (G := G) (A := A) (T := T) (lv := lv) (ln := ln) (li := li) (at0 := at0) (fk := fk) (nd := nd) (sy := sy) (na := na) (vi := vi) (le := le) (op0 := op0) (tk0 := tk0) (ec := ec) (hd := hd) (hW := hW) (e_ln := e_ln) (e_li := e_li) (e_at0 := e_at0) (e_fk := e_fk) (e_nd := e_nd) (e_sy := e_sy) (e_na := e_na) (e_vi := e_vi) (e_le := e_le) (e_op0 := e_op0) (e_tk0 := e_tk0) (e_ec := e_ec) (i_LT := i_LT) (i_SV := i_SV) (i_PQ := i_PQ) (h_lv := h_lv) (p_0 := p_0) (p_1 := p_1) (p_2 := p_2) (p_3 := p_3) (p_4 := p_4) (p_5 := p_5) (p_6 := p_6) (p_7 := p_7) (p_8 := p_8) (p_9 := p_9) (p_10 := p_10) L G517 A518 (n) (at2_519) (tk2_520) (fk2_521) (nd1) (op1) (sy1) (na1) (ec1) gL_0 gL_1 gL_2 hW522 hF530 hP531 hS532 hV533 ((e524)) ((e525)) ((e526)) (((hF523.1 31 rfl).trans (ex_nd1))) (((hF523.1 15 rfl).trans (ex_op1))) (((hF523.1 19 rfl).trans (ex_sy1))) (((hF523.1 28 rfl).trans (ex_na1))) (ec536) (((hF523.1 9 rfl).trans (fx_9))) (((hF523.1 29 rfl).trans (fx_29))) (by omega) (by omega) (by omega) (by omega) (by omega) (by omega) (by omega) (by omega) (by omega)
    · have _q : True := trivial
      exfalso
      omega
set_option maxRecDepth 20000 in
set_option maxHeartbeats 4000000 in
theorem c_readPar_w {X : jX} {k : Nat} (hP : RPw X k) {dd : Nat} {Vs : Nat → Prop} {sb pb : Int} (hvb : VB Vs sb) {c0 c1 : jC} {G : Nat → Int} {A : Nat → Nat → Int} {T : jH} {lv : Int} {ln li at0 fk nd sy na vi le op0 tk0 ec : Int} (hd : 8 * k + 82 ≤ dd) (hW : Wk G A) (e_ln : G 9 = ln) (e_li : G 3 = li) (e_at0 : G 10 = at0) (e_fk : G 16 = fk) (e_nd : G 31 = nd) (e_sy : G 19 = sy) (e_na : G 28 = na) (e_vi : G 29 = vi) (e_le : A 4 (ln).toNat = le) (e_op0 : G 15 = op0) (e_tk0 : G 11 = tk0) (e_ec : ecn A (G 31) = ec) (i_LT : LT G A) (i_SV : SV Vs sb G A) (i_PQ : PQ Vs sb pb G A) (h_lv : (-2147483648 : Int) ≤ lv ∧ lv ≤ 2147483647) (p_0 : 0 ≤ lv ∧ lv ≤ 15) (p_1 : 18 - lv ≤ ((k + 1 : Nat) : Int)) (p_2 : fk = 0) (p_3 : ln < li) (p_4 : at0 ≤ le) (p_5 : op0 = 0) (p_6 : nd ≤ 2 * at0 - tz tk0 + 30) (p_7 : sy ≤ na + 2) (p_8 : vi ≤ sy) (p_9 : sb = sy) (p_10 : 1 ≤ tk0) : wk X dd 299 [.ref 66, .int (i32 lv)] (rV c0 c1 G A T) (fun o V_q => ∃ (G_q : Nat → Int) (A_q : Nat → Nat → Int) (r : Int) (ln2 : Int) (at2 : Int) (fk2 : Int) (nd2 : Int) (sy2 : Int) (na2 : Int) (vi2 : Int) (lf2 : Int) (ec2 : Int), V_q = rV c0 c1 G_q A_q T ∧ o = .inl (some (.int (i32 r))) ∧ Wk G_q A_q ∧ Fr [9, 10, 11, 12, 13, 14, 15, 16, 17, 18, 19, 28, 29, 31] [6, 7, 8, 9, 10, 11, 12, 14, 15, 16, 17, 18, 19, 20, 21, 22, 23, 24, 28] G A G_q A_q ∧ Pf nd A A_q ∧ Fx sr (sy) A A_q ∧ Fx [14] (vi) A A_q ∧ ((-2147483648 : Int) ≤ r ∧ r ≤ 2147483647) ∧ G_q 9 = ln2 ∧ G_q 10 = at2 ∧ G_q 16 = fk2 ∧ G_q 31 = nd2 ∧ G_q 19 = sy2 ∧ G_q 28 = na2 ∧ G_q 29 = vi2 ∧ A_q 3 (ln2).toNat = lf2 ∧ ecn A_q (G_q 31) = ec2 ∧ (at0 ≤ at2) ∧ (nd ≤ nd2) ∧ (sy ≤ sy2) ∧ (sy2 ≤ na2 + 2) ∧ (vi ≤ vi2) ∧ (vi2 ≤ vi + 1) ∧ (0 ≤ r) ∧ (r ≤ 6999) ∧ (ln ≤ ln2) ∧ (ln2 ≤ li) ∧ (((1 ≤ fk2) ∧ (nd2 - nd ≤ 2 * at2 - (2 * at0 - tz tk0) + 14)) ∨ ((fk2 = 0) ∧ (vi2 = vi) ∧ (ln < ln2) ∧ (nd2 - nd ≤ 2 * at2 - (2 * at0 - tz tk0)) ∧ (at2 < lf2 ∨ li ≤ ln2) ∧ (nd ≤ r) ∧ (r < nd2) ∧ (wSt A_q (sy2) pb (wP A_q (sy2) pb (k)) (Vs) (r) (nd) (nd2) (sy) (sy2)) ∧ (NX A_q (r)) ∧ (nd2 - nd + 5 * (ec2 - ec) ≤ 2 * at2 - (2 * at0 - tz tk0)) ∧ (NdO A_q (nd) (nd2) (sy) (r))))) := by
  obtain ⟨d, rfl⟩ : ∃ d, dd = d + 1 := ⟨dd - 1, by omega⟩
  refine wk_of (e := jm299) rfl (Nat.le_of_ble_eq_true rfl) ?_
  show wj X d jm299 (0, [(0, .ref 66), (1, .int (i32 (lv)))], [], rV c0 c1 G A T) _
  have hF0 : Fr [9, 10, 11, 12, 13, 14, 15, 16, 17, 18, 19, 28, 29, 31] [6, 7, 8, 9, 10, 11, 12, 14, 15, 16, 17, 18, 19, 20, 21, 22, 23, 24, 28] G A G A := Fr_rf
  have hP0 : Pf nd A A := Pf_rf
  have hS0 : Fx sr (sy) A A := Fx_rf
  have hV0 : Fx [14] (vi) A A := Fx_rf
  have b_ln : (0 : Int) ≤ ln ∧ ln ≤ 3000 := e_ln ▸ hW.1 9
  have b_li : (0 : Int) ≤ li ∧ li ≤ 3000 := e_li ▸ hW.1 3
  have b_at0 : (0 : Int) ≤ at0 ∧ at0 ≤ 3002 := e_at0 ▸ hW.1 10
  have b_fk : (0 : Int) ≤ fk ∧ fk ≤ 6 := e_fk ▸ hW.1 16
  have b_nd : (0 : Int) ≤ nd ∧ nd ≤ 6999 := e_nd ▸ hW.1 31
  have b_sy : (0 : Int) ≤ sy ∧ sy ≤ 202 := e_sy ▸ hW.1 19
  have b_na : (0 : Int) ≤ na ∧ na ≤ 200 := e_na ▸ hW.1 28
  have b_vi : (0 : Int) ≤ vi ∧ vi ≤ 202 := e_vi ▸ hW.1 29
  have b_le : (0 : Int) ≤ le ∧ le ≤ 3000 := e_le ▸ hW.2 4 _
  have b_op0 : (-2147483648 : Int) ≤ op0 ∧ op0 ≤ 2147483647 := e_op0 ▸ hW.1 15
  have z_tk0 := tz_f tk0
  have b_tk0 : (0 : Int) ≤ tk0 ∧ tk0 ≤ 5 := e_tk0 ▸ hW.1 11
  refine jx_ld (pc_q := 1) (l_q := [(0, .ref 66), (1, .int (i32 (lv)))]) (st_q := [.ref 66]) rfl (jl_aloadn rfl) ?_
  refine jx_vr (pc_q := 4) (as := []) (st := []) rfl rfl rfl rfl ⟨rfl, rfl, Nat.le_of_ble_eq_true rfl⟩ rfl rfl (c_next (dd := d) (hd := by omega) (hW := hW)  (ln := ln) (e_ln := show G 9 = ln from (e_ln)) (le := le) (e_le := show A 4 (ln).toNat = le from (e_le)) (at0 := at0) (e_at0 := show G 10 = at0 from (e_at0))    (p_0 := by omega)) (fun o V_q hq => ?_)
  obtain ⟨G546, A547, at2_548, tk2_549, rfl, rfl, hW550, hF551, e552, e553, p554, p555, p556, -⟩ := hq
  have hF558 := Fr_tr hF0 hF551 (Fr_sub (by decide)) (Fr_sub (by decide))
  have hP559 := Pf_f hP0 hF551 (by decide)
  have hS560 := Fx_f hS0 hF551 (by decide)
  have hV561 := Fx_f hV0 hF551 (by decide)
  have ec562 : ecn A547 (G546 31) = ec := (ecn_f (hF551.2 15 rfl) (hF551.1 31 rfl)).trans e_ec
  have bat2_548 : (0 : Int) ≤ at2_548 ∧ at2_548 ≤ 3002 := e552 ▸ hW550.1 10
  have ztk2_549 := tz_b tk2_549
  have btk2_549 : (0 : Int) ≤ tk2_549 ∧ tk2_549 ≤ 5 := e553 ▸ hW550.1 11
  refine .inl ⟨rfl, ?_⟩
  have pz563 : at0 + tz tk2_549 ≤ at2_548 := by omega
  refine jx_ld (pc_q := 5) (l_q := [(0, .ref 66), (1, .int (i32 (lv)))]) (st_q := [.ref 66]) rfl (jl_aloadn rfl) ?_
  have z564 := tz_f (tk2_549)
  refine jr_get (pc_q := 8) (i := 11) (v := .int (i32 (tk2_549))) rfl rfl (by decide) (rFv_eq (by decide) (show G546 11 = tk2_549 from (e553))) rfl ?_
  refine jx_if_ne (pc_q := 11) (tg := 37) rfl rfl rfl (Int.le_trans (by decide : (-2147483648 : Int) ≤ 0) btk2_549.1) (Int.le_trans btk2_549.2 (by decide : (5 : Int) ≤ 2147483647)) (fun h565 => ?_) (fun h565 => ?_)
  · have _q := h565
    refine jx_ld (pc_q := 38) (l_q := [(0, .ref 66), (1, .int (i32 (lv)))]) (st_q := [.ref 66]) rfl (jl_aloadn rfl) ?_
    have z566 := tz_f (tk2_549)
    refine jr_get (pc_q := 41) (i := 11) (v := .int (i32 (tk2_549))) rfl rfl (by decide) (rFv_eq (by decide) (show G546 11 = tk2_549 from (e553))) rfl ?_
    refine jx_ar (pc_q := 42) (st_q := [.int (i32 (1)), .int (i32 (tk2_549))]) rfl rfl rfl rfl ?_
    refine jx_icmp_eq (pc_q := 45) (tg := 56) rfl rfl rfl (Int.le_trans (by decide : (-2147483648 : Int) ≤ 0) btk2_549.1) (Int.le_trans btk2_549.2 (by decide : (5 : Int) ≤ 2147483647)) (by decide) (by decide) (fun h567 => ?_) (fun h567 => ?_)
    · have _q := h567
      refine jx_ld (pc_q := 57) (l_q := [(0, .ref 66), (1, .int (i32 (lv)))]) (st_q := [.ref 66]) rfl (jl_aloadn rfl) ?_
      refine jx_ar (pc_q := 59) (st_q := [.int (i32 (29)), .ref 66]) rfl rfl rfl rfl ?_
      refine jx_ar (pc_q := 60) (st_q := [.int (i32 (0)), .int (i32 (29)), .ref 66]) rfl rfl rfl rfl ?_
      refine jx_ar (pc_q := 61) (st_q := [.int (i32 (0)), .int (i32 (0)), .int (i32 (29)), .ref 66]) rfl rfl rfl rfl ?_
      refine jx_ar (pc_q := 62) (st_q := [.int (i32 (0)), .int (i32 (0)), .int (i32 (0)), .int (i32 (29)), .ref 66]) rfl rfl rfl rfl ?_
      refine jx_ar (pc_q := 63) (st_q := [.int (i32 (0)), .int (i32 (0)), .int (i32 (0)), .int (i32 (0)), .int (i32 (29)), .ref 66]) rfl rfl rfl rfl ?_
      refine jx_vr (pc_q := 66) (as := [.int (i32 (29)), .int (i32 (0)), .int (i32 (0)), .int (i32 (0)), .int (i32 (0))]) (st := []) rfl rfl rfl rfl ⟨rfl, rfl, Nat.le_of_ble_eq_true rfl⟩ rfl rfl (c_node_p (dd := d) (hd := by omega) (hW := hW550) (kind := 29) (a := 0) (b := 0) (c := 0) (e := 0) (nd := nd) (e_nd := show G546 31 = nd from ((hF551.1 31 rfl).trans (e_nd))) (ec := ec) (e_ec := show ecn A547 (G546 31) = ec from ec562) (sy := sy) (e_sy := show G546 19 = sy from ((hF551.1 19 rfl).trans (e_sy))) (ln := ln) (e_ln := show G546 9 = ln from ((hF551.1 9 rfl).trans (e_ln))) (li := li) (e_li := show G546 3 = li from ((hF551.1 3 rfl).trans (e_li)))  (h_kind := ⟨(by decide), (by decide)⟩) (h_a := ⟨(by decide), (by decide)⟩) (h_b := ⟨(by decide), (by decide)⟩) (h_c := ⟨(by decide), (by decide)⟩) (h_e := ⟨(by decide), (by decide)⟩)  (p_0 := by omega) (p_1 := by omega) (p_2 := by omega) (p_3 := by omega)) (fun o V_q hq => ?_)
      obtain ⟨G568, A569, nd2_570, ec2_571, rfl, rfl, hW572, hF573, hQ574, e575, e576, p577, p578, p579, p580, -⟩ := hq
      have hF582 := Fr_tr hF558 hF573 (Fr_sub (by decide)) (Fr_sub (by decide))
      have hP583 := Pf_tr hP559 hQ574 (by omega)
      have hS584 := Fx_f hS560 hF573 (by decide)
      have hV585 := Fx_f hV561 hF573 (by decide)
      have bnd2_570 : (0 : Int) ≤ nd2_570 ∧ nd2_570 ≤ 6999 := e575 ▸ hW572.1 31
      refine .inr ⟨_, rfl, ?_⟩
      refine jx_ld (pc_q := 67) (l_q := jSto1 [(0, .ref 66), (1, .int (i32 (lv)))] 2 (.int (i32 (nd)))) (st_q := []) rfl rfl ?_
      obtain ⟨L586, eL586⟩ : ∃ q, q = jSto1 [(0, .ref 66), (1, .int (i32 (lv)))] 2 (.int (i32 (nd))) := ⟨_, rfl⟩
      rw [← eL586]
      have gL586_0 : jGet L586 0 = some (.ref 66) := eL586 ▸ jg_ne (by decide) (rfl : jGet [(0, .ref 66), (1, .int (i32 (lv)))] 0 = some (.ref 66)) rfl
      have gL586_1 : jGet L586 1 = some (.int (i32 (lv))) := eL586 ▸ jg_ne (by decide) (rfl : jGet [(0, .ref 66), (1, .int (i32 (lv)))] 1 = some (.int (i32 (lv)))) rfl
      have gL586_2 : jGet L586 2 = some (.int (i32 (nd))) := eL586 ▸ jg_eq
      refine jx_ld (pc_q := 68) (l_q := L586) (st_q := [.ref 66]) rfl (jl_aloadn gL586_0) ?_
      refine jr_get (pc_q := 71) (i := 34) (v := .ref 84) rfl rfl (by decide) rfl rfl ?_
      refine jx_ld (pc_q := 72) (l_q := L586) (st_q := [.int (i32 (nd)), .ref 84]) rfl (jl_iloadn gL586_2) ?_
      refine jx_ld (pc_q := 73) (l_q := L586) (st_q := [.ref 66, .int (i32 (nd)), .ref 84]) rfl (jl_aloadn gL586_0) ?_
      refine jx_ar (pc_q := 75) (st_q := [.int (i32 (10)), .ref 66, .int (i32 (nd)), .ref 84]) rfl rfl rfl rfl ?_
      refine jx_ar (pc_q := 76) (st_q := [.int (i32 (0)), .int (i32 (10)), .ref 66, .int (i32 (nd)), .ref 84]) rfl rfl rfl rfl ?_
      refine jx_vr (pc_q := 79) (as := [.int (i32 (10)), .int (i32 (0))]) (st := [.int (i32 (nd)), .ref 84]) rfl rfl rfl rfl ⟨rfl, rfl, Nat.le_of_ble_eq_true rfl⟩ rfl rfl (c_newName (dd := d) (hd := by omega) (hW := hW572) (kind := 10) (many := 0) (sy := sy) (e_sy := show G568 19 = sy from ((hF573.1 19 rfl).trans ((hF551.1 19 rfl).trans (e_sy)))) (na := na) (e_na := show G568 28 = na from ((hF573.1 28 rfl).trans ((hF551.1 28 rfl).trans (e_na)))) (fk := fk) (e_fk := show G568 16 = fk from ((hF573.1 16 rfl).trans ((hF551.1 16 rfl).trans (e_fk))))  (h_kind := ⟨(by decide), (by decide)⟩) (h_many := ⟨(by decide), (by decide)⟩)  (p_0 := by omega) (p_1 := by omega)) (fun o V_q hq => ?_)
      obtain ⟨G587, A588, r589, sy2_590, na2_591, fk2_592, yk2_593, rfl, rfl, hW594, hF595, hQ596, b597, e598, e599, e600, e601, q602⟩ := hq
      have hF603 := Fr_tr hF582 hF595 (Fr_sub (by decide)) (Fr_sub (by decide))
      have hP604 := Pf_f hP583 hF595 (by decide)
      have hS605 := Fx_tr hS584 hQ596 (by omega)
      have hV606 := Fx_f hV585 hF595 (by decide)
      have sf607 : ND A588 (nd) (29) (0) (0) (0) (0) (0) (0) := ND_ag (by omega) (Ag_fr hF595 (by decide)) p579
      have sf608 : NdO A588 (nd) (nd + 1) (sy) (nd) := NdO_f hF595 (by decide) p580
      have ec609 : ecn A588 (G587 31) = ec2_571 := (ecn_f (hF595.2 15 rfl) (hF595.1 31 rfl)).trans e576
      have bsy2_590 : (0 : Int) ≤ sy2_590 ∧ sy2_590 ≤ 202 := e598 ▸ hW594.1 19
      have bna2_591 : (0 : Int) ≤ na2_591 ∧ na2_591 ≤ 200 := e599 ▸ hW594.1 28
      have bfk2_592 : (0 : Int) ≤ fk2_592 ∧ fk2_592 ≤ 6 := e600 ▸ hW594.1 16
      have byk2_593 : (0 : Int) ≤ yk2_593 ∧ yk2_593 ≤ 14 := e601 ▸ hW594.2 7 _
      refine .inr ⟨_, rfl, ?_⟩
      rcases q602 with ⟨a616, a610, a611, a612, a613, a614, a615⟩ | ⟨rfl, a617, a618, a619⟩
      · have _q : True := trivial
        rw [a616]
        refine jr_st (pc_q := 80) (i := 17) (m := 7000) (z := nd) (y := sy) rfl (by decide) rfl (by decide) (by omega) (by omega) rfl ?_
        have hW621 : Wk G587 (uA A588 17 (nd).toNat (sy)) := Wk_a hW594 (show (-2147483648 : Int) ≤ sy by omega) (show sy ≤ (2147483647 : Int) by omega)
        have hF622 := Fr_a (z := sy) (k := 17) (n := (nd).toNat) hF603 (by decide)
        obtain ⟨A620, eA620⟩ : ∃ q, q = uA A588 17 (nd).toNat (sy) := ⟨_, rfl⟩
        rw [← eA620]
        rw [← eA620] at hW621 hF622
        have q623 : A620 17 (nd).toNat = sy := by rw [eA620]; exact uA_eq
        have hP624 : Pf nd A A620 := eA620 ▸ Pf_a hP604 (z := nd) (by omega) (by omega)
        have hS625 : Fx sr (sy) A A620 := eA620 ▸ Fx_n hS605 rfl
        have hV626 : Fx [14] (vi) A A620 := eA620 ▸ Fx_n hV606 rfl
        have sf627 : ND A620 (nd) (29) (sy) (0) (0) (0) (0) (0) := ND_a eA620 sf607
        have sf628 : NdO A620 (nd) (nd + 1) (sy) (nd) := NdO_st eA620 (by decide) sf608
        have sf629 : YD A620 (sy) (10) (0) := YD_fx (by omega) (by omega) (Sg_ne (sb := sy + 1) eA620 rfl) a615
        have ec630 : ecn A620 (G587 31) = ec2_571 := (ecn_e ((congrFun eA620 15).trans (uA_ne (by decide)))).trans ec609
        refine jx_ld (pc_q := 81) (l_q := L586) (st_q := [.ref 66]) rfl (jl_aloadn gL586_0) ?_
        refine jx_ar (pc_q := 82) (st_q := [.int (i32 (1)), .ref 66]) rfl rfl rfl rfl ?_
        refine jx_vr (pc_q := 85) (as := [.int (i32 (1))]) (st := []) rfl rfl rfl rfl ⟨rfl, rfl, Nat.le_of_ble_eq_true rfl⟩ rfl rfl (c_need (dd := d) (hd := by omega) (hW := hW621) (g := 1) (ln := ln) (e_ln := show G587 9 = ln from ((hF595.1 9 rfl).trans ((hF573.1 9 rfl).trans ((hF551.1 9 rfl).trans (e_ln))))) (le := le) (e_le := show A620 4 (ln).toNat = le from (congrFun (((congrFun eA620 4).trans (uA_ne (by decide))).trans ((hF595.2 4 rfl).trans ((hF573.2 4 rfl).trans (hF551.2 4 rfl)))) _).trans (e_le)) (at0 := at2_548) (e_at0 := show G587 10 = at2_548 from ((hF595.1 10 rfl).trans ((hF573.1 10 rfl).trans (e552)))) (fk := fk2_592) (e_fk := show G587 16 = fk2_592 from (e600)) (tk0 := tk2_549) (e_tk0 := show G587 11 = tk2_549 from ((hF595.1 11 rfl).trans ((hF573.1 11 rfl).trans (e553))))  (h_g := ⟨(by decide), (by decide)⟩)  (p_0 := by omega)) (fun o V_q hq => ?_)
        obtain ⟨G631, A632, at2_633, tk2_634, fk2_635, rfl, rfl, hW636, hF637, e638, e639, e640, p641, p642, q643⟩ := hq
        have hF644 := Fr_tr hF622 hF637 (Fr_sub (by decide)) (Fr_sub (by decide))
        have hP645 := Pf_f hP624 hF637 (by decide)
        have hS646 := Fx_f hS625 hF637 (by decide)
        have hV647 := Fx_f hV626 hF637 (by decide)
        have sf648 : ND A632 (nd) (29) (sy) (0) (0) (0) (0) (0) := ND_ag (by omega) (Ag_fr hF637 (by decide)) sf627
        have sf649 : NdO A632 (nd) (nd + 1) (sy) (nd) := NdO_f hF637 (by decide) sf628
        have sf650 : YD A632 (sy) (10) (0) := YD_fx (by omega) (by omega) (Sg_fr (sb := sy + 1) hF637 (by decide)) sf629
        have ec651 : ecn A632 (G631 31) = ec2_571 := (ecn_f (hF637.2 15 rfl) (hF637.1 31 rfl)).trans ec630
        have bat2_633 : (0 : Int) ≤ at2_633 ∧ at2_633 ≤ 3002 := e638 ▸ hW636.1 10
        have ztk2_634 := tz_b tk2_634
        have btk2_634 : (0 : Int) ≤ tk2_634 ∧ tk2_634 ≤ 5 := e639 ▸ hW636.1 11
        have bfk2_635 : (0 : Int) ≤ fk2_635 ∧ fk2_635 ≤ 6 := e640 ▸ hW636.1 16
        refine .inl ⟨rfl, ?_⟩
        rcases q643 with ⟨a652, a653, a654, a655⟩ | ⟨a656, a657, a658, a659⟩
        · have _q : True := trivial
          have z660 := tz_f (tk2_634)
          exact c_readPar_w_at_85p (X := X) (k := k) (hP := hP) (d := d) (Vs := Vs) (sb := sb) (pb := pb) (hvb := hvb) (c0 := c0) (c1 := c1) (G := G) (A := A) (T := T) (lv := lv) (ln := ln) (li := li) (at0 := at0) (fk := fk) (nd := nd) (sy := sy) (na := na) (vi := vi) (le := le) (op0 := op0) (tk0 := tk0) (ec := ec) (hd := hd) (hW := hW) (e_ln := e_ln) (e_li := e_li) (e_at0 := e_at0) (e_fk := e_fk) (e_nd := e_nd) (e_sy := e_sy) (e_na := e_na) (e_vi := e_vi) (e_le := e_le) (e_op0 := e_op0) (e_tk0 := e_tk0) (e_ec := e_ec) (i_LT := i_LT) (i_SV := i_SV) (i_PQ := i_PQ) (h_lv := h_lv) (p_0 := p_0) (p_1 := p_1) (p_2 := p_2) (p_3 := p_3) (p_4 := p_4) (p_5 := p_5) (p_6 := p_6) (p_7 := p_7) (p_8 := p_8) (p_9 := p_9) (p_10 := p_10) L586 G631 A632 (nd) (at2_633) (tk2_634) (fk2_635) (nd2_570) (op0) (sy2_590) (na2_591) (ec2_571) gL586_0 gL586_1 gL586_2 hW636 hF644 hP645 hS646 hV647 ((e638)) ((e639)) ((e640)) (((hF637.1 31 rfl).trans ((hF595.1 31 rfl).trans (e575)))) (((hF637.1 15 rfl).trans ((hF595.1 15 rfl).trans ((hF573.1 15 rfl).trans ((hF551.1 15 rfl).trans (e_op0)))))) (((hF637.1 19 rfl).trans (e598))) (((hF637.1 28 rfl).trans (e599))) (ec651) (((hF637.1 9 rfl).trans ((hF595.1 9 rfl).trans ((hF573.1 9 rfl).trans ((hF551.1 9 rfl).trans (e_ln)))))) (((hF637.1 29 rfl).trans ((hF595.1 29 rfl).trans ((hF573.1 29 rfl).trans ((hF551.1 29 rfl).trans (e_vi)))))) (by omega) (by omega) (by omega) (by omega) (by omega) (by omega) (by omega) (by omega) (by omega)
        · have _q : True := trivial
          have pz661 : at2_548 + tz tk2_634 ≤ at2_633 := by omega
          have z662 := tz_f (tk2_634)
          exact c_readPar_w_at_85 (X := X) (k := k) (hP := hP) (d := d) (Vs := Vs) (sb := sb) (pb := pb) (hvb := hvb) (c0 := c0) (c1 := c1) (G := G) (A := A) (T := T) (lv := lv) (ln := ln) (li := li) (at0 := at0) (fk := fk) (nd := nd) (sy := sy) (na := na) (vi := vi) (le := le) (op0 := op0) (tk0 := tk0) (ec := ec) (hd := hd) (hW := hW) (e_ln := e_ln) (e_li := e_li) (e_at0 := e_at0) (e_fk := e_fk) (e_nd := e_nd) (e_sy := e_sy) (e_na := e_na) (e_vi := e_vi) (e_le := e_le) (e_op0 := e_op0) (e_tk0 := e_tk0) (e_ec := e_ec) (i_LT := i_LT) (i_SV := i_SV) (i_PQ := i_PQ) (h_lv := h_lv) (p_0 := p_0) (p_1 := p_1) (p_2 := p_2) (p_3 := p_3) (p_4 := p_4) (p_5 := p_5) (p_6 := p_6) (p_7 := p_7) (p_8 := p_8) (p_9 := p_9) (p_10 := p_10) L586 G631 A632 (nd) (at2_633) (tk2_634) (fk2_635) (nd2_570) (op0) (sy2_590) (na2_591) (sy) (yk2_593) (ec2_571) gL586_0 gL586_1 gL586_2 hW636 hF644 hP645 hS646 hV647 ((e638)) ((e639)) ((e640)) (((hF637.1 31 rfl).trans ((hF595.1 31 rfl).trans (e575)))) (((hF637.1 15 rfl).trans ((hF595.1 15 rfl).trans ((hF573.1 15 rfl).trans ((hF551.1 15 rfl).trans (e_op0)))))) (((hF637.1 19 rfl).trans (e598))) (((hF637.1 28 rfl).trans (e599))) ((congrFun (hF637.2 17 rfl) _).trans (q623)) ((congrFun ((hF637.2 7 rfl).trans ((congrFun eA620 7).trans (uA_ne (by decide)))) _).trans (e601)) (ec651) (((hF637.1 9 rfl).trans ((hF595.1 9 rfl).trans ((hF573.1 9 rfl).trans ((hF551.1 9 rfl).trans (e_ln)))))) (((hF637.1 29 rfl).trans ((hF595.1 29 rfl).trans ((hF573.1 29 rfl).trans ((hF551.1 29 rfl).trans (e_vi)))))) (by omega) (by omega) (by omega) (by omega) (by omega) (by omega) (by omega) (by omega) (by omega) (by omega) (by omega) (by omega) (by omega) (sf648) (by omega) ((NdO_w sf649 (by omega) (by omega) (by omega)))
      · have _q : True := trivial
        refine jr_st (pc_q := 80) (i := 17) (m := 7000) (z := nd) (y := 0) rfl (by decide) rfl (by decide) (by omega) (by omega) rfl ?_
        have hW664 : Wk G587 (uA A588 17 (nd).toNat (0)) := Wk_a hW594 (show (-2147483648 : Int) ≤ 0 by omega) (show 0 ≤ (2147483647 : Int) by omega)
        have hF665 := Fr_a (z := 0) (k := 17) (n := (nd).toNat) hF603 (by decide)
        obtain ⟨A663, eA663⟩ : ∃ q, q = uA A588 17 (nd).toNat (0) := ⟨_, rfl⟩
        rw [← eA663]
        rw [← eA663] at hW664 hF665
        have q666 : A663 17 (nd).toNat = 0 := by rw [eA663]; exact uA_eq
        have hP667 : Pf nd A A663 := eA663 ▸ Pf_a hP604 (z := nd) (by omega) (by omega)
        have hS668 : Fx sr (sy) A A663 := eA663 ▸ Fx_n hS605 rfl
        have hV669 : Fx [14] (vi) A A663 := eA663 ▸ Fx_n hV606 rfl
        have sf670 : ND A663 (nd) (29) (0) (0) (0) (0) (0) (0) := ND_a eA663 sf607
        have sf671 : NdO A663 (nd) (nd + 1) (sy) (nd) := NdO_st eA663 (by decide) sf608
        have ec672 : ecn A663 (G587 31) = ec2_571 := (ecn_e ((congrFun eA663 15).trans (uA_ne (by decide)))).trans ec609
        refine jx_ld (pc_q := 81) (l_q := L586) (st_q := [.ref 66]) rfl (jl_aloadn gL586_0) ?_
        refine jx_ar (pc_q := 82) (st_q := [.int (i32 (1)), .ref 66]) rfl rfl rfl rfl ?_
        refine jx_vr (pc_q := 85) (as := [.int (i32 (1))]) (st := []) rfl rfl rfl rfl ⟨rfl, rfl, Nat.le_of_ble_eq_true rfl⟩ rfl rfl (c_need (dd := d) (hd := by omega) (hW := hW664) (g := 1) (ln := ln) (e_ln := show G587 9 = ln from ((hF595.1 9 rfl).trans ((hF573.1 9 rfl).trans ((hF551.1 9 rfl).trans (e_ln))))) (le := le) (e_le := show A663 4 (ln).toNat = le from (congrFun (((congrFun eA663 4).trans (uA_ne (by decide))).trans ((hF595.2 4 rfl).trans ((hF573.2 4 rfl).trans (hF551.2 4 rfl)))) _).trans (e_le)) (at0 := at2_548) (e_at0 := show G587 10 = at2_548 from ((hF595.1 10 rfl).trans ((hF573.1 10 rfl).trans (e552)))) (fk := fk2_592) (e_fk := show G587 16 = fk2_592 from (e600)) (tk0 := tk2_549) (e_tk0 := show G587 11 = tk2_549 from ((hF595.1 11 rfl).trans ((hF573.1 11 rfl).trans (e553))))  (h_g := ⟨(by decide), (by decide)⟩)  (p_0 := by omega)) (fun o V_q hq => ?_)
        obtain ⟨G673, A674, at2_675, tk2_676, fk2_677, rfl, rfl, hW678, hF679, e680, e681, e682, p683, p684, q685⟩ := hq
        have hF686 := Fr_tr hF665 hF679 (Fr_sub (by decide)) (Fr_sub (by decide))
        have hP687 := Pf_f hP667 hF679 (by decide)
        have hS688 := Fx_f hS668 hF679 (by decide)
        have hV689 := Fx_f hV669 hF679 (by decide)
        have sf690 : ND A674 (nd) (29) (0) (0) (0) (0) (0) (0) := ND_ag (by omega) (Ag_fr hF679 (by decide)) sf670
        have sf691 : NdO A674 (nd) (nd + 1) (sy) (nd) := NdO_f hF679 (by decide) sf671
        have ec692 : ecn A674 (G673 31) = ec2_571 := (ecn_f (hF679.2 15 rfl) (hF679.1 31 rfl)).trans ec672
        have bat2_675 : (0 : Int) ≤ at2_675 ∧ at2_675 ≤ 3002 := e680 ▸ hW678.1 10
        have ztk2_676 := tz_b tk2_676
        have btk2_676 : (0 : Int) ≤ tk2_676 ∧ tk2_676 ≤ 5 := e681 ▸ hW678.1 11
        have bfk2_677 : (0 : Int) ≤ fk2_677 ∧ fk2_677 ≤ 6 := e682 ▸ hW678.1 16
        refine .inl ⟨rfl, ?_⟩
        rcases q685 with ⟨a693, a694, a695, a696⟩ | ⟨a697, a698, a699, a700⟩
        · have _q : True := trivial
          have z701 := tz_f (tk2_676)
          exact c_readPar_w_at_85p (X := X) (k := k) (hP := hP) (d := d) (Vs := Vs) (sb := sb) (pb := pb) (hvb := hvb) (c0 := c0) (c1 := c1) (G := G) (A := A) (T := T) (lv := lv) (ln := ln) (li := li) (at0 := at0) (fk := fk) (nd := nd) (sy := sy) (na := na) (vi := vi) (le := le) (op0 := op0) (tk0 := tk0) (ec := ec) (hd := hd) (hW := hW) (e_ln := e_ln) (e_li := e_li) (e_at0 := e_at0) (e_fk := e_fk) (e_nd := e_nd) (e_sy := e_sy) (e_na := e_na) (e_vi := e_vi) (e_le := e_le) (e_op0 := e_op0) (e_tk0 := e_tk0) (e_ec := e_ec) (i_LT := i_LT) (i_SV := i_SV) (i_PQ := i_PQ) (h_lv := h_lv) (p_0 := p_0) (p_1 := p_1) (p_2 := p_2) (p_3 := p_3) (p_4 := p_4) (p_5 := p_5) (p_6 := p_6) (p_7 := p_7) (p_8 := p_8) (p_9 := p_9) (p_10 := p_10) L586 G673 A674 (nd) (at2_675) (tk2_676) (fk2_677) (nd2_570) (op0) (sy2_590) (na2_591) (ec2_571) gL586_0 gL586_1 gL586_2 hW678 hF686 hP687 hS688 hV689 ((e680)) ((e681)) ((e682)) (((hF679.1 31 rfl).trans ((hF595.1 31 rfl).trans (e575)))) (((hF679.1 15 rfl).trans ((hF595.1 15 rfl).trans ((hF573.1 15 rfl).trans ((hF551.1 15 rfl).trans (e_op0)))))) (((hF679.1 19 rfl).trans (e598))) (((hF679.1 28 rfl).trans (e599))) (ec692) (((hF679.1 9 rfl).trans ((hF595.1 9 rfl).trans ((hF573.1 9 rfl).trans ((hF551.1 9 rfl).trans (e_ln)))))) (((hF679.1 29 rfl).trans ((hF595.1 29 rfl).trans ((hF573.1 29 rfl).trans ((hF551.1 29 rfl).trans (e_vi)))))) (by omega) (by omega) (by omega) (by omega) (by omega) (by omega) (by omega) (by omega) (by omega)
        · have _q : True := trivial
          exfalso
          omega
    · have _q := h567
      refine jx_ld (pc_q := 46) (l_q := [(0, .ref 66), (1, .int (i32 (lv)))]) (st_q := [.ref 66]) rfl (jl_aloadn rfl) ?_
      refine jx_ar (pc_q := 47) (st_q := [.int (i32 (1)), .ref 66]) rfl rfl rfl rfl ?_
      refine jx_ld (pc_q := 48) (l_q := [(0, .ref 66), (1, .int (i32 (lv)))]) (st_q := [.ref 66, .int (i32 (1)), .ref 66]) rfl (jl_aloadn rfl) ?_
      have b702 : (-3000 : Int) ≤ G546 12 ∧ G546 12 ≤ 3002 := hW550.1 12
      refine jr_get (pc_q := 51) (i := 12) (v := .int (i32 (G546 12))) rfl rfl (by decide) rfl rfl ?_
      refine jx_vr (pc_q := 54) (as := [.int (i32 (1)), .int (i32 (G546 12))]) (st := []) rfl rfl rfl rfl ⟨rfl, rfl, Nat.le_of_ble_eq_true rfl⟩ rfl rfl (c_fail (dd := d) (hd := by omega) (hW := hW550) (kind := 1) (place := G546 12) (fk := fk) (e_fk := show G546 16 = fk from ((hF551.1 16 rfl).trans (e_fk)))  (h_kind := ⟨(by decide), (by decide)⟩) (h_place := ⟨(Int.le_trans (by decide : (-2147483648 : Int) ≤ -3000) b702.1), (Int.le_trans b702.2 (by decide : (3002 : Int) ≤ 2147483647))⟩)  (p_0 := by omega) (p_1 := by omega)) (fun o V_q hq => ?_)
      obtain ⟨G703, A704, fk2_705, rfl, rfl, hW706, hF707, e708, p709, -⟩ := hq
      have hF711 := Fr_tr hF558 hF707 (Fr_sub (by decide)) (Fr_sub (by decide))
      have hP712 := Pf_f hP559 hF707 (by decide)
      have hS713 := Fx_f hS560 hF707 (by decide)
      have hV714 := Fx_f hV561 hF707 (by decide)
      have ec715 : ecn A704 (G703 31) = ec := (ecn_f (hF707.2 15 rfl) (hF707.1 31 rfl)).trans ec562
      have bfk2_705 : (0 : Int) ≤ fk2_705 ∧ fk2_705 ≤ 6 := e708 ▸ hW706.1 16
      refine .inl ⟨rfl, ?_⟩
      refine jx_ar (pc_q := 55) (st_q := [.int (i32 (0))]) rfl rfl rfl rfl ?_
      refine jx_rt (v := some (.int (i32 (0)))) rfl rfl rfl rfl rfl rfl ?_
      exact ⟨_, _, _, ln, at2_548, fk2_705, nd, sy, na, vi, A 3 (ln).toNat, ec, rfl, rfl, hW706, hF711, hP712, hS713, hV714, by omega, ((hF707.1 9 rfl).trans ((hF551.1 9 rfl).trans (e_ln))), ((hF707.1 10 rfl).trans (e552)), (e708), ((hF707.1 31 rfl).trans ((hF551.1 31 rfl).trans (e_nd))), ((hF707.1 19 rfl).trans ((hF551.1 19 rfl).trans (e_sy))), ((hF707.1 28 rfl).trans ((hF551.1 28 rfl).trans (e_na))), ((hF707.1 29 rfl).trans ((hF551.1 29 rfl).trans (e_vi))), (congrFun ((hF707.2 3 rfl).trans (hF551.2 3 rfl)) _), ec715, by omega, by omega, by omega, by omega, by omega, by omega, by omega, by omega, by omega, by omega, by first | exact Or.inl (⟨by omega, by omega⟩)⟩
  · have _q := h565
    refine jx_ld (pc_q := 12) (l_q := [(0, .ref 66), (1, .int (i32 (lv)))]) (st_q := [.ref 66]) rfl (jl_aloadn rfl) ?_
    refine jx_ar (pc_q := 14) (st_q := [.int (i32 (28)), .ref 66]) rfl rfl rfl rfl ?_
    refine jx_ar (pc_q := 15) (st_q := [.int (i32 (0)), .int (i32 (28)), .ref 66]) rfl rfl rfl rfl ?_
    refine jx_ar (pc_q := 16) (st_q := [.int (i32 (0)), .int (i32 (0)), .int (i32 (28)), .ref 66]) rfl rfl rfl rfl ?_
    refine jx_ar (pc_q := 17) (st_q := [.int (i32 (0)), .int (i32 (0)), .int (i32 (0)), .int (i32 (28)), .ref 66]) rfl rfl rfl rfl ?_
    refine jx_ar (pc_q := 18) (st_q := [.int (i32 (0)), .int (i32 (0)), .int (i32 (0)), .int (i32 (0)), .int (i32 (28)), .ref 66]) rfl rfl rfl rfl ?_
    refine jx_vr (pc_q := 21) (as := [.int (i32 (28)), .int (i32 (0)), .int (i32 (0)), .int (i32 (0)), .int (i32 (0))]) (st := []) rfl rfl rfl rfl ⟨rfl, rfl, Nat.le_of_ble_eq_true rfl⟩ rfl rfl (c_node_p (dd := d) (hd := by omega) (hW := hW550) (kind := 28) (a := 0) (b := 0) (c := 0) (e := 0) (nd := nd) (e_nd := show G546 31 = nd from ((hF551.1 31 rfl).trans (e_nd))) (ec := ec) (e_ec := show ecn A547 (G546 31) = ec from ec562) (sy := sy) (e_sy := show G546 19 = sy from ((hF551.1 19 rfl).trans (e_sy))) (ln := ln) (e_ln := show G546 9 = ln from ((hF551.1 9 rfl).trans (e_ln))) (li := li) (e_li := show G546 3 = li from ((hF551.1 3 rfl).trans (e_li)))  (h_kind := ⟨(by decide), (by decide)⟩) (h_a := ⟨(by decide), (by decide)⟩) (h_b := ⟨(by decide), (by decide)⟩) (h_c := ⟨(by decide), (by decide)⟩) (h_e := ⟨(by decide), (by decide)⟩)  (p_0 := by omega) (p_1 := by omega) (p_2 := by omega) (p_3 := by omega)) (fun o V_q hq => ?_)
    obtain ⟨G716, A717, nd2_718, ec2_719, rfl, rfl, hW720, hF721, hQ722, e723, e724, p725, p726, p727, p728, -⟩ := hq
    have hF730 := Fr_tr hF558 hF721 (Fr_sub (by decide)) (Fr_sub (by decide))
    have hP731 := Pf_tr hP559 hQ722 (by omega)
    have hS732 := Fx_f hS560 hF721 (by decide)
    have hV733 := Fx_f hV561 hF721 (by decide)
    have bnd2_718 : (0 : Int) ≤ nd2_718 ∧ nd2_718 ≤ 6999 := e723 ▸ hW720.1 31
    refine .inr ⟨_, rfl, ?_⟩
    refine jx_ld (pc_q := 22) (l_q := jSto1 [(0, .ref 66), (1, .int (i32 (lv)))] 2 (.int (i32 (nd)))) (st_q := []) rfl rfl ?_
    obtain ⟨L734, eL734⟩ : ∃ q, q = jSto1 [(0, .ref 66), (1, .int (i32 (lv)))] 2 (.int (i32 (nd))) := ⟨_, rfl⟩
    rw [← eL734]
    have gL734_0 : jGet L734 0 = some (.ref 66) := eL734 ▸ jg_ne (by decide) (rfl : jGet [(0, .ref 66), (1, .int (i32 (lv)))] 0 = some (.ref 66)) rfl
    have gL734_1 : jGet L734 1 = some (.int (i32 (lv))) := eL734 ▸ jg_ne (by decide) (rfl : jGet [(0, .ref 66), (1, .int (i32 (lv)))] 1 = some (.int (i32 (lv)))) rfl
    have gL734_2 : jGet L734 2 = some (.int (i32 (nd))) := eL734 ▸ jg_eq
    refine jx_ld (pc_q := 23) (l_q := L734) (st_q := [.ref 66]) rfl (jl_aloadn gL734_0) ?_
    refine jx_vr (pc_q := 26) (as := []) (st := []) rfl rfl rfl rfl ⟨rfl, rfl, Nat.le_of_ble_eq_true rfl⟩ rfl rfl (c_endLine (dd := d) (hd := by omega) (hW := hW720)  (ln := ln) (e_ln := show G716 9 = ln from ((hF721.1 9 rfl).trans ((hF551.1 9 rfl).trans (e_ln)))) (li := li) (e_li := show G716 3 = li from ((hF721.1 3 rfl).trans ((hF551.1 3 rfl).trans (e_li)))) (fk := fk) (e_fk := show G716 16 = fk from ((hF721.1 16 rfl).trans ((hF551.1 16 rfl).trans (e_fk)))) (tk0 := tk2_549) (e_tk0 := show G716 11 = tk2_549 from ((hF721.1 11 rfl).trans (e553)))    (p_0 := by omega)) (fun o V_q hq => ?_)
    obtain ⟨G735, A736, ln2_737, fk2_738, rfl, rfl, hW739, hF740, e741, e742, q743⟩ := hq
    have hF744 := Fr_tr hF730 hF740 (Fr_sub (by decide)) (Fr_sub (by decide))
    have hP745 := Pf_f hP731 hF740 (by decide)
    have hS746 := Fx_f hS732 hF740 (by decide)
    have hV747 := Fx_f hV733 hF740 (by decide)
    have sf748 : ND A736 (nd) (28) (0) (0) (0) (0) (0) (0) := ND_ag (by omega) (Ag_fr hF740 (by decide)) p727
    have sf749 : NdO A736 (nd) (nd + 1) (sy) (nd) := NdO_f hF740 (by decide) p728
    have ec750 : ecn A736 (G735 31) = ec2_719 := (ecn_f (hF740.2 15 rfl) (hF740.1 31 rfl)).trans e724
    have bln2_737 : (0 : Int) ≤ ln2_737 ∧ ln2_737 ≤ 3000 := e741 ▸ hW739.1 9
    have bfk2_738 : (0 : Int) ≤ fk2_738 ∧ fk2_738 ≤ 6 := e742 ▸ hW739.1 16
    refine .inl ⟨rfl, ?_⟩
    rcases q743 with ⟨a751, a752, a753, a754, a755⟩ | ⟨a756, a757⟩
    · have _q : True := trivial
      have b758 : (0 : Int) ≤ A 3 (ln2_737).toNat ∧ A 3 (ln2_737).toNat ≤ 3000 := hW.2 3 _
      have lt759 : ln2_737 < li → le < A 3 (ln2_737).toNat := fun hh => LT_nx (LT_ext (((hF740.1 3 rfl).trans ((hF721.1 3 rfl).trans (hF551.1 3 rfl)))) (((hF740.2 3 rfl).trans ((hF721.2 3 rfl).trans (hF551.2 3 rfl)))) (((hF740.2 4 rfl).trans ((hF721.2 4 rfl).trans (hF551.2 4 rfl)))) i_LT) (show G735 3 = li from ((hF740.1 3 rfl).trans ((hF721.1 3 rfl).trans ((hF551.1 3 rfl).trans (e_li))))) (show A736 4 (ln).toNat = le from (congrFun ((hF740.2 4 rfl).trans ((hF721.2 4 rfl).trans (hF551.2 4 rfl))) _).trans (e_le)) (show A736 3 (ln2_737).toNat = A 3 (ln2_737).toNat from (congrFun ((hF740.2 3 rfl).trans ((hF721.2 3 rfl).trans (hF551.2 3 rfl))) _)) (show ln2_737 = ln + 1 by omega) (by omega) hh
      refine jx_ld (pc_q := 27) (l_q := L734) (st_q := [.ref 66]) rfl (jl_aloadn gL734_0) ?_
      refine jx_ld (pc_q := 28) (l_q := L734) (st_q := [.int (i32 (nd)), .ref 66]) rfl (jl_iloadn gL734_2) ?_
      refine jx_ld (pc_q := 29) (l_q := L734) (st_q := [.int (i32 (lv)), .int (i32 (nd)), .ref 66]) rfl (jl_iloadn gL734_1) ?_
      refine jx_ar (pc_q := 30) (st_q := [.int (i32 (2)), .int (i32 (lv)), .int (i32 (nd)), .ref 66]) rfl rfl rfl rfl ?_
      refine jx_ar (pc_q := 32) (st_q := [.int (i32 (8)), .int (i32 (2)), .int (i32 (lv)), .int (i32 (nd)), .ref 66]) rfl rfl rfl rfl ?_
      refine jx_vr (pc_q := 35) (as := [.int (i32 (nd)), .int (i32 (lv)), .int (i32 (2)), .int (i32 (8))]) (st := []) rfl rfl rfl rfl ⟨rfl, rfl, Nat.le_of_ble_eq_true rfl⟩ rfl rfl (c_readChildren_w (dd := d) (hP := hP) (zz := nd) (hd := by omega) (hW := hW739) (n := nd) (lv := lv) (least := 2) (mo := 8) (kk := 28) (aa := 0) (bb := 0) (cc := 0) (de := 0) (xx := 0) (ln := ln2_737) (e_ln := show G735 9 = ln2_737 from (e741)) (li := li) (e_li := show G735 3 = li from ((hF740.1 3 rfl).trans ((hF721.1 3 rfl).trans ((hF551.1 3 rfl).trans (e_li))))) (at0 := at2_548) (e_at0 := show G735 10 = at2_548 from ((hF740.1 10 rfl).trans ((hF721.1 10 rfl).trans (e552)))) (fk := fk2_738) (e_fk := show G735 16 = fk2_738 from (e742)) (nd := nd2_718) (e_nd := show G735 31 = nd2_718 from ((hF740.1 31 rfl).trans (e723))) (sy := sy) (e_sy := show G735 19 = sy from ((hF740.1 19 rfl).trans ((hF721.1 19 rfl).trans ((hF551.1 19 rfl).trans (e_sy))))) (na := na) (e_na := show G735 28 = na from ((hF740.1 28 rfl).trans ((hF721.1 28 rfl).trans ((hF551.1 28 rfl).trans (e_na))))) (vi := vi) (e_vi := show G735 29 = vi from ((hF740.1 29 rfl).trans ((hF721.1 29 rfl).trans ((hF551.1 29 rfl).trans (e_vi))))) (lf := A 3 (ln2_737).toNat) (e_lf := show A736 3 (ln2_737).toNat = A 3 (ln2_737).toNat from (congrFun ((hF740.2 3 rfl).trans ((hF721.2 3 rfl).trans (hF551.2 3 rfl))) _)) (ec := ec2_719) (e_ec := show ecn A736 (G735 31) = ec2_719 from ec750) (i_LT := (LT_ext (((hF740.1 3 rfl).trans ((hF721.1 3 rfl).trans (hF551.1 3 rfl)))) (((hF740.2 3 rfl).trans ((hF721.2 3 rfl).trans (hF551.2 3 rfl)))) (((hF740.2 4 rfl).trans ((hF721.2 4 rfl).trans (hF551.2 4 rfl)))) i_LT)) (i_SV := (SV_fx i_SV e_vi (show G735 29 = vi from ((hF740.1 29 rfl).trans ((hF721.1 29 rfl).trans ((hF551.1 29 rfl).trans (e_vi))))) (by omega) hV747)) (i_PQ := (PQ_fx i_PQ hS746 (by omega) (hF744.2 29 rfl) (hF744.2 30 rfl))) (hvb := hvb) (h_n := ⟨(Int.le_trans (by decide : (-2147483648 : Int) ≤ 0) b_nd.1), (Int.le_trans b_nd.2 (by decide : (6999 : Int) ≤ 2147483647))⟩) (h_lv := ⟨(Int.le_trans (by decide : (-2147483648 : Int) ≤ -2147483648) h_lv.1), (Int.le_trans h_lv.2 (by decide : (2147483647 : Int) ≤ 2147483647))⟩) (h_least := ⟨(by decide), (by decide)⟩) (h_mo := ⟨(by decide), (by decide)⟩)  (p_0 := by omega) (p_1 := by omega) (p_2 := by omega) (p_3 := by omega) (p_4 := by omega) (p_5 := by omega) (p_6 := by omega) (p_7 := by omega) (p_8 := by omega) (p_9 := by omega) (p_10 := by omega) (p_11 := by omega) (p_12 := by omega) (p_13 := by omega) (p_14 := by omega) (p_15 := sf748) (p_16 := sf749)) (fun o V_q hq => ?_)
      obtain ⟨G760, A761, ln2_762, at2_763, fk2_764, nd2_765, sy2_766, na2_767, vi2_768, lf2_769, mm_770, f2_771, ec2_772, rfl, rfl, hW773, hF774, hQ775, hQ776, hQ777, hQ778, e779, e780, e781, e782, e783, e784, e785, e786, e787, e788, e789, p790, p791, p792, p793, p794, p795, p796, q797⟩ := hq
      have hF798 := Fr_tr hF744 hF774 (Fr_sub (by decide)) (Fr_sub (by decide))
      have hP799 := Pf_tr hP745 hQ775 (by omega)
      have hS800 := Fx_tr hS746 hQ777 (by omega)
      have hV801 := Fx_tr hV747 hQ778 (by omega)
      have sf802 : NdM A761 (nd + 1) (nd + 1) (sy) := NdM_px hQ776 (by omega) (by omega) (by omega) (NdO_r (lo_q := nd + 1) (by omega) (by omega) sf749)
      have bln2_762 : (0 : Int) ≤ ln2_762 ∧ ln2_762 ≤ 3000 := e779 ▸ hW773.1 9
      have bat2_763 : (0 : Int) ≤ at2_763 ∧ at2_763 ≤ 3002 := e780 ▸ hW773.1 10
      have bfk2_764 : (0 : Int) ≤ fk2_764 ∧ fk2_764 ≤ 6 := e781 ▸ hW773.1 16
      have bnd2_765 : (0 : Int) ≤ nd2_765 ∧ nd2_765 ≤ 6999 := e782 ▸ hW773.1 31
      have bsy2_766 : (0 : Int) ≤ sy2_766 ∧ sy2_766 ≤ 202 := e783 ▸ hW773.1 19
      have bna2_767 : (0 : Int) ≤ na2_767 ∧ na2_767 ≤ 200 := e784 ▸ hW773.1 28
      have bvi2_768 : (0 : Int) ≤ vi2_768 ∧ vi2_768 ≤ 202 := e785 ▸ hW773.1 29
      have blf2_769 : (0 : Int) ≤ lf2_769 ∧ lf2_769 ≤ 3000 := e786 ▸ hW773.2 3 _
      have bmm_770 : (-2147483648 : Int) ≤ mm_770 ∧ mm_770 ≤ 2147483647 := e787 ▸ hW773.2 18 _
      have bf2_771 : (-2147483648 : Int) ≤ f2_771 ∧ f2_771 ≤ 2147483647 := e788 ▸ hW773.2 21 _
      refine .inl ⟨rfl, ?_⟩
      rcases q797 with ⟨a803, a804⟩ | ⟨a805, a806, a807, a808, a809, a810, a811, a812, a813, a814⟩
      · have _q : True := trivial
        refine jx_ld (pc_q := 36) (l_q := L734) (st_q := [.int (i32 (nd))]) rfl (jl_iloadn gL734_2) ?_
        refine jx_rt (v := some (.int (i32 (nd)))) rfl rfl rfl rfl rfl rfl ?_
        exact ⟨_, _, _, ln2_762, at2_763, fk2_764, nd2_765, sy2_766, na2_767, vi2_768, lf2_769, ec2_772, rfl, rfl, hW773, hF798, hP799, hS800, hV801, by omega, (e779), (e780), (e781), (e782), (e783), (e784), (e785), (e786), e789, by omega, by omega, by omega, by omega, by omega, by omega, by omega, by omega, by omega, by omega, by first | exact Or.inl (⟨by omega, by omega⟩)⟩
      · have _q : True := trivial
        refine jx_ld (pc_q := 36) (l_q := L734) (st_q := [.int (i32 (nd))]) rfl (jl_iloadn gL734_2) ?_
        refine jx_rt (v := some (.int (i32 (nd)))) rfl rfl rfl rfl rfl rfl ?_
        exact ⟨_, _, _, ln2_762, at2_763, fk2_764, nd2_765, sy2_766, na2_767, vi2_768, lf2_769, ec2_772, rfl, rfl, hW773, hF798, hP799, hS800, hV801, by omega, (e779), (e780), (e781), (e782), (e783), (e784), (e785), (e786), e789, by omega, by omega, by omega, by omega, by omega, by omega, by omega, by omega, by omega, by omega, by first | exact Or.inr ((⟨by omega, by omega, by omega, by omega, by omega, by omega, by omega, (wS_par a810 (RL_eq a811 (by omega) (by omega) (by omega) (by omega) (by omega)) (by omega) (by omega) (by omega)), (NX_nd a810), by omega, (NdO_w (NdO_app (sy := sy) a813 (NdO_app (sy := sy) (NdO_m (r := nd) sf802) (NdO_m (r := nd) a814) (by omega) (by omega) (by omega)) (by omega) (by omega) (by omega)) (by omega) (by omega) (by omega))⟩))⟩
    · have _q : True := trivial
      refine jx_ld (pc_q := 27) (l_q := L734) (st_q := [.ref 66]) rfl (jl_aloadn gL734_0) ?_
      refine jx_ld (pc_q := 28) (l_q := L734) (st_q := [.int (i32 (nd)), .ref 66]) rfl (jl_iloadn gL734_2) ?_
      refine jx_ld (pc_q := 29) (l_q := L734) (st_q := [.int (i32 (lv)), .int (i32 (nd)), .ref 66]) rfl (jl_iloadn gL734_1) ?_
      refine jx_ar (pc_q := 30) (st_q := [.int (i32 (2)), .int (i32 (lv)), .int (i32 (nd)), .ref 66]) rfl rfl rfl rfl ?_
      refine jx_ar (pc_q := 32) (st_q := [.int (i32 (8)), .int (i32 (2)), .int (i32 (lv)), .int (i32 (nd)), .ref 66]) rfl rfl rfl rfl ?_
      refine jx_vr (pc_q := 35) (as := [.int (i32 (nd)), .int (i32 (lv)), .int (i32 (2)), .int (i32 (8))]) (st := []) rfl rfl rfl rfl ⟨rfl, rfl, Nat.le_of_ble_eq_true rfl⟩ rfl rfl (c_readChildren_f (dd := d) (zz := nd) (hd := by omega) (hW := hW739) (n := nd) (lv := lv) (least := 2) (mo := 8) (fk := fk2_738) (e_fk := show G735 16 = fk2_738 from (e742))  (h_n := ⟨(Int.le_trans (by decide : (-2147483648 : Int) ≤ 0) b_nd.1), (Int.le_trans b_nd.2 (by decide : (6999 : Int) ≤ 2147483647))⟩) (h_lv := ⟨(Int.le_trans (by decide : (-2147483648 : Int) ≤ -2147483648) h_lv.1), (Int.le_trans h_lv.2 (by decide : (2147483647 : Int) ≤ 2147483647))⟩) (h_least := ⟨(by decide), (by decide)⟩) (h_mo := ⟨(by decide), (by decide)⟩)  (p_0 := by omega) (p_1 := by omega) (p_2 := by omega) (p_3 := by omega)) (fun o V_q hq => ?_)
      obtain ⟨G815, A816, fk2_817, rfl, rfl, hW818, hF819, hQ820, e821, p822, -⟩ := hq
      have hF824 := Fr_tr hF744 hF819 (Fr_sub (by decide)) (Fr_sub (by decide))
      have hP825 := Pf_tr hP745 hQ820 (by omega)
      have hS826 := Fx_f hS746 hF819 (by decide)
      have hV827 := Fx_f hV747 hF819 (by decide)
      have ec828 : ecn A816 (G815 31) = ec2_719 := (ecn_f (hF819.2 15 rfl) (hF819.1 31 rfl)).trans ec750
      have bfk2_817 : (0 : Int) ≤ fk2_817 ∧ fk2_817 ≤ 6 := e821 ▸ hW818.1 16
      refine .inl ⟨rfl, ?_⟩
      refine jx_ld (pc_q := 36) (l_q := L734) (st_q := [.int (i32 (nd))]) rfl (jl_iloadn gL734_2) ?_
      refine jx_rt (v := some (.int (i32 (nd)))) rfl rfl rfl rfl rfl rfl ?_
      exact ⟨_, _, _, ln2_737, at2_548, fk2_817, nd2_718, sy, na, vi, A 3 (ln2_737).toNat, ec2_719, rfl, rfl, hW818, hF824, hP825, hS826, hV827, by omega, ((hF819.1 9 rfl).trans (e741)), ((hF819.1 10 rfl).trans ((hF740.1 10 rfl).trans ((hF721.1 10 rfl).trans (e552)))), (e821), ((hF819.1 31 rfl).trans ((hF740.1 31 rfl).trans (e723))), ((hF819.1 19 rfl).trans ((hF740.1 19 rfl).trans ((hF721.1 19 rfl).trans ((hF551.1 19 rfl).trans (e_sy))))), ((hF819.1 28 rfl).trans ((hF740.1 28 rfl).trans ((hF721.1 28 rfl).trans ((hF551.1 28 rfl).trans (e_na))))), ((hF819.1 29 rfl).trans ((hF740.1 29 rfl).trans ((hF721.1 29 rfl).trans ((hF551.1 29 rfl).trans (e_vi))))), (congrFun ((hF819.2 3 rfl).trans ((hF740.2 3 rfl).trans ((hF721.2 3 rfl).trans (hF551.2 3 rfl)))) _), ec828, by omega, by omega, by omega, by omega, by omega, by omega, by omega, by omega, by omega, by omega, by first | exact Or.inl (⟨by omega, by omega⟩)⟩
