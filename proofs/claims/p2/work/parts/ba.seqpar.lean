set_option maxRecDepth 20000 in
set_option maxHeartbeats 4000000 in
theorem c_readSeq_w_at_126p {X : jX} {k : Nat} (hP : RPw X k) {d : Nat} {Vs : Nat → Prop} {sb pb : Int} (hvb : VB Vs sb) {c0 c1 : jC} {G : Nat → Int} {A : Nat → Nat → Int} {T : jH} {lv : Int} {ln li at0 fk nd sy na vi le op0 tk0 ec : Int} (hd : 8 * k + 82 ≤ d + 1) (hW : Wk G A) (e_ln : G 9 = ln) (e_li : G 3 = li) (e_at0 : G 10 = at0) (e_fk : G 16 = fk) (e_nd : G 31 = nd) (e_sy : G 19 = sy) (e_na : G 28 = na) (e_vi : G 29 = vi) (e_le : A 4 (ln).toNat = le) (e_op0 : G 15 = op0) (e_tk0 : G 11 = tk0) (e_ec : ecn A (G 31) = ec) (i_LT : LT G A) (i_SV : SV Vs sb G A) (i_PQ : PQ Vs sb pb G A) (h_lv : (-2147483648 : Int) ≤ lv ∧ lv ≤ 2147483647) (p_0 : 0 ≤ lv ∧ lv ≤ 15) (p_1 : 18 - lv ≤ ((k + 1 : Nat) : Int)) (p_2 : fk = 0) (p_3 : ln < li) (p_4 : at0 ≤ le) (p_5 : op0 = 0) (p_6 : nd ≤ 2 * at0 - tz tk0 + 30) (p_7 : sy ≤ na + 2) (p_8 : vi ≤ sy) (p_9 : sb = sy) (p_10 : 1 ≤ tk0) : ∀ (L : jL) (Gx : Nat → Int) (Ax : Nat → Nat → Int) (n at1 tk1 fk1 nd1 op1 sy1 na1 ec1 : Int), jGet L 0 = some (.ref 66) → jGet L 1 = some (.int (i32 (lv))) → jGet L 2 = some (.int (i32 n)) → Wk Gx Ax → Fr [9, 10, 11, 12, 13, 14, 15, 16, 17, 18, 19, 28, 29, 31] [6, 7, 8, 9, 10, 11, 12, 14, 15, 16, 17, 18, 19, 20, 21, 22, 23, 24, 28] G A Gx Ax → Pf nd A Ax → Fx sr (sy) A Ax → Fx [14] (vi) A Ax → Gx 10 = at1 → Gx 11 = tk1 → Gx 16 = fk1 → Gx 31 = nd1 → Gx 15 = op1 → Gx 19 = sy1 → Gx 28 = na1 → ecn Ax (Gx 31) = ec1 → Gx 9 = ln → Gx 29 = vi → ((-2147483648 : Int) ≤ n ∧ n ≤ 2147483647) → (1 ≤ fk1) → (at0 ≤ at1) → (at1 ≤ le) → (nd ≤ n ∧ n ≤ 6998 ∧ n < nd1) → (sy ≤ sy1) → (sy1 ≤ na1 + 2) → (0 ≤ op1 ∧ op1 ≤ 9) → (nd1 - nd ≤ 2 * at1 - 2 * at0 + 8) → wj X d jm297 (126, L, [], rV c0 c1 Gx Ax T) (fun o V' => ∃ (G' : Nat → Int) (A' : Nat → Nat → Int) (r : Int) (ln2 : Int) (at2 : Int) (fk2 : Int) (nd2 : Int) (sy2 : Int) (na2 : Int) (vi2 : Int) (lf2 : Int) (ec2 : Int), V' = rV c0 c1 G' A' T ∧ o = .inl (some (.int (i32 r))) ∧ Wk G' A' ∧ Fr [9, 10, 11, 12, 13, 14, 15, 16, 17, 18, 19, 28, 29, 31] [6, 7, 8, 9, 10, 11, 12, 14, 15, 16, 17, 18, 19, 20, 21, 22, 23, 24, 28] G A G' A' ∧ Pf nd A A' ∧ Fx sr (sy) A A' ∧ Fx [14] (vi) A A' ∧ ((-2147483648 : Int) ≤ r ∧ r ≤ 2147483647) ∧ G' 9 = ln2 ∧ G' 10 = at2 ∧ G' 16 = fk2 ∧ G' 31 = nd2 ∧ G' 19 = sy2 ∧ G' 28 = na2 ∧ G' 29 = vi2 ∧ A' 3 (ln2).toNat = lf2 ∧ ecn A' (G' 31) = ec2 ∧ (at0 ≤ at2) ∧ (nd ≤ nd2) ∧ (sy ≤ sy2) ∧ (sy2 ≤ na2 + 2) ∧ (vi ≤ vi2) ∧ (vi2 ≤ vi + 1) ∧ (0 ≤ r) ∧ (r ≤ 6999) ∧ (ln ≤ ln2) ∧ (ln2 ≤ li) ∧ (((1 ≤ fk2) ∧ (nd2 - nd ≤ 2 * at2 - (2 * at0 - tz tk0) + 14)) ∨ ((fk2 = 0) ∧ (vi2 = vi) ∧ (ln < ln2) ∧ (nd2 - nd ≤ 2 * at2 - (2 * at0 - tz tk0)) ∧ (at2 < lf2 ∨ li ≤ ln2) ∧ (nd ≤ r) ∧ (r < nd2) ∧ (wSt A' (sy2) pb (wP A' (sy2) pb (k)) (Vs) (r) (nd) (nd2) (sy) (sy2)) ∧ (NX A' (r)) ∧ (nd2 - nd + 5 * (ec2 - ec) ≤ 2 * at2 - (2 * at0 - tz tk0)) ∧ (NdM A' (nd) (nd2) (sy))))) := by
  have hF0 : Fr [9, 10, 11, 12, 13, 14, 15, 16, 17, 18, 19, 28, 29, 31] [6, 7, 8, 9, 10, 11, 12, 14, 15, 16, 17, 18, 19, 20, 21, 22, 23, 24, 28] G A G A := Fr_rf
  have hP0 : Pf nd A A := Pf_rf
  have hS0 : Fx sr (sy) A A := Fx_rf
  have hV0 : Fx [14] (vi) A A := Fx_rf
  have b_ln : (0 : Int) ≤ ln ∧ ln ≤ 3000 := e_ln ▸ hW.1 9
  have b_li : (0 : Int) ≤ li ∧ li ≤ 3000 := e_li ▸ hW.1 3
  have b_at0 : (0 : Int) ≤ at0 ∧ at0 ≤ 3002 := e_at0 ▸ hW.1 10
  have b_fk : (0 : Int) ≤ fk ∧ fk ≤ 6 := e_fk ▸ hW.1 16
  have b_nd : (0 : Int) ≤ nd ∧ nd ≤ 6999 := e_nd ▸ hW.1 31
  have b_sy : (0 : Int) ≤ sy ∧ sy ≤ 202 := e_sy ▸ hW.1 19
  have b_na : (0 : Int) ≤ na ∧ na ≤ 200 := e_na ▸ hW.1 28
  have b_vi : (0 : Int) ≤ vi ∧ vi ≤ 202 := e_vi ▸ hW.1 29
  have b_le : (0 : Int) ≤ le ∧ le ≤ 3000 := e_le ▸ hW.2 4 _
  have b_op0 : (-2147483648 : Int) ≤ op0 ∧ op0 ≤ 2147483647 := e_op0 ▸ hW.1 15
  have z_tk0 := tz_f tk0
  have b_tk0 : (0 : Int) ≤ tk0 ∧ tk0 ≤ 5 := e_tk0 ▸ hW.1 11
  intro L Gx Ax n at1 tk1 fk1 nd1 op1 sy1 na1 ec1 gL_0 gL_1 gL_2 hWx hFx hPx hSx hVx ex_at1 ex_tk1 ex_fk1 ex_nd1 ex_op1 ex_sy1 ex_na1 ex_ec1 fx_9 fx_29 rx_n iv_0 iv_1 iv_2 iv_3 iv_4 iv_5 iv_6 iv_7
  have b_at1 : (0 : Int) ≤ at1 ∧ at1 ≤ 3002 := ex_at1 ▸ hWx.1 10
  have z_tk1 := tz_f tk1
  have b_tk1 : (0 : Int) ≤ tk1 ∧ tk1 ≤ 5 := ex_tk1 ▸ hWx.1 11
  have b_fk1 : (0 : Int) ≤ fk1 ∧ fk1 ≤ 6 := ex_fk1 ▸ hWx.1 16
  have b_nd1 : (0 : Int) ≤ nd1 ∧ nd1 ≤ 6999 := ex_nd1 ▸ hWx.1 31
  have b_op1 : (-2147483648 : Int) ≤ op1 ∧ op1 ≤ 2147483647 := ex_op1 ▸ hWx.1 15
  have b_sy1 : (0 : Int) ≤ sy1 ∧ sy1 ≤ 202 := ex_sy1 ▸ hWx.1 19
  have b_na1 : (0 : Int) ≤ na1 ∧ na1 ≤ 200 := ex_na1 ▸ hWx.1 28
  refine jx_ld (pc' := 127) (l' := L) (st' := [.ref 66]) rfl (jl_aloadn gL_0) ?_
  refine jx_vr (pc' := 130) (as := []) (st := []) rfl rfl rfl rfl ⟨rfl, rfl, Nat.le_of_ble_eq_true rfl⟩ rfl rfl (c_endLine (dd := d) (hd := by omega) (hW := hWx)  (ln := ln) (e_ln := show Gx 9 = ln from (fx_9)) (li := li) (e_li := show Gx 3 = li from ((hFx.1 3 rfl).trans (e_li))) (fk := fk1) (e_fk := show Gx 16 = fk1 from (ex_fk1)) (tk0 := tk1) (e_tk0 := show Gx 11 = tk1 from (ex_tk1))    (p_0 := by omega)) (fun o V' hq => ?_)
  obtain ⟨G1, A2, ln2_3, fk2_4, rfl, rfl, hW5, hF6, e7, e8, q9⟩ := hq
  have hF10 := Fr_tr hFx hF6 (Fr_sub (by decide)) (Fr_sub (by decide))
  have hP11 := Pf_f hPx hF6 (by decide)
  have hS12 := Fx_f hSx hF6 (by decide)
  have hV13 := Fx_f hVx hF6 (by decide)
  have ec14 : ecn A2 (G1 31) = ec1 := (ecn_f (hF6.2 15 rfl) (hF6.1 31 rfl)).trans ex_ec1
  have bln2_3 : (0 : Int) ≤ ln2_3 ∧ ln2_3 ≤ 3000 := e7 ▸ hW5.1 9
  have bfk2_4 : (0 : Int) ≤ fk2_4 ∧ fk2_4 ≤ 6 := e8 ▸ hW5.1 16
  refine .inl ⟨rfl, ?_⟩
  rcases q9 with ⟨a15, a16, a17, a18, a19⟩ | ⟨a20, a21⟩
  · have _q : True := trivial
    exfalso
    omega
  · have _q : True := trivial
    refine jx_ld (pc' := 131) (l' := L) (st' := [.ref 66]) rfl (jl_aloadn gL_0) ?_
    refine jx_ld (pc' := 132) (l' := L) (st' := [.int (i32 (n)), .ref 66]) rfl (jl_iloadn gL_2) ?_
    refine jx_ld (pc' := 133) (l' := L) (st' := [.int (i32 (lv)), .int (i32 (n)), .ref 66]) rfl (jl_iloadn gL_1) ?_
    refine jx_vr (pc' := 136) (as := [.int (i32 (n)), .int (i32 (lv))]) (st := []) rfl rfl rfl rfl ⟨rfl, rfl, Nat.le_of_ble_eq_true rfl⟩ rfl rfl (c_readIndexed_f (dd := d) (hd := by omega) (hW := hW5) (n := n) (lv := lv) (fk := fk2_4) (e_fk := show G1 16 = fk2_4 from (e8))  (h_n := ⟨(Int.le_trans (by decide : (-2147483648 : Int) ≤ -2147483648) rx_n.1), (Int.le_trans rx_n.2 (by decide : (2147483647 : Int) ≤ 2147483647))⟩) (h_lv := ⟨(Int.le_trans (by decide : (-2147483648 : Int) ≤ -2147483648) h_lv.1), (Int.le_trans h_lv.2 (by decide : (2147483647 : Int) ≤ 2147483647))⟩)  (p_0 := by omega)) (fun o V' hq => ?_)
    obtain ⟨r22, rfl, rfl, b23, p24, -⟩ := hq
    refine .inr ⟨_, rfl, ?_⟩
    refine jx_rt (v := some (.int (i32 (r22)))) rfl rfl rfl rfl rfl rfl ?_
    exact ⟨_, _, _, ln2_3, at1, fk2_4, nd1, sy1, na1, vi, A 3 (ln2_3).toNat, ec1, rfl, rfl, hW5, hF10, hP11, hS12, hV13, by omega, (e7), ((hF6.1 10 rfl).trans (ex_at1)), (e8), ((hF6.1 31 rfl).trans (ex_nd1)), ((hF6.1 19 rfl).trans (ex_sy1)), ((hF6.1 28 rfl).trans (ex_na1)), ((hF6.1 29 rfl).trans (fx_29)), (congrFun ((hF6.2 3 rfl).trans (hFx.2 3 rfl)) _), ec14, by omega, by omega, by omega, by omega, by omega, by omega, by omega, by omega, by omega, by omega, by first | exact Or.inl (⟨by omega, by omega⟩)⟩
set_option maxRecDepth 20000 in
set_option maxHeartbeats 4000000 in
theorem c_readSeq_w_at_116p {X : jX} {k : Nat} (hP : RPw X k) {d : Nat} {Vs : Nat → Prop} {sb pb : Int} (hvb : VB Vs sb) {c0 c1 : jC} {G : Nat → Int} {A : Nat → Nat → Int} {T : jH} {lv : Int} {ln li at0 fk nd sy na vi le op0 tk0 ec : Int} (hd : 8 * k + 82 ≤ d + 1) (hW : Wk G A) (e_ln : G 9 = ln) (e_li : G 3 = li) (e_at0 : G 10 = at0) (e_fk : G 16 = fk) (e_nd : G 31 = nd) (e_sy : G 19 = sy) (e_na : G 28 = na) (e_vi : G 29 = vi) (e_le : A 4 (ln).toNat = le) (e_op0 : G 15 = op0) (e_tk0 : G 11 = tk0) (e_ec : ecn A (G 31) = ec) (i_LT : LT G A) (i_SV : SV Vs sb G A) (i_PQ : PQ Vs sb pb G A) (h_lv : (-2147483648 : Int) ≤ lv ∧ lv ≤ 2147483647) (p_0 : 0 ≤ lv ∧ lv ≤ 15) (p_1 : 18 - lv ≤ ((k + 1 : Nat) : Int)) (p_2 : fk = 0) (p_3 : ln < li) (p_4 : at0 ≤ le) (p_5 : op0 = 0) (p_6 : nd ≤ 2 * at0 - tz tk0 + 30) (p_7 : sy ≤ na + 2) (p_8 : vi ≤ sy) (p_9 : sb = sy) (p_10 : 1 ≤ tk0) : ∀ (L : jL) (Gx : Nat → Int) (Ax : Nat → Nat → Int) (n at1 tk1 fk1 nd1 op1 sy1 na1 ec1 : Int), jGet L 0 = some (.ref 66) → jGet L 1 = some (.int (i32 (lv))) → jGet L 2 = some (.int (i32 n)) → Wk Gx Ax → Fr [9, 10, 11, 12, 13, 14, 15, 16, 17, 18, 19, 28, 29, 31] [6, 7, 8, 9, 10, 11, 12, 14, 15, 16, 17, 18, 19, 20, 21, 22, 23, 24, 28] G A Gx Ax → Pf nd A Ax → Fx sr (sy) A Ax → Fx [14] (vi) A Ax → Gx 10 = at1 → Gx 11 = tk1 → Gx 16 = fk1 → Gx 31 = nd1 → Gx 15 = op1 → Gx 19 = sy1 → Gx 28 = na1 → ecn Ax (Gx 31) = ec1 → Gx 9 = ln → Gx 29 = vi → ((-2147483648 : Int) ≤ n ∧ n ≤ 2147483647) → (1 ≤ fk1) → (at0 ≤ at1) → (at1 ≤ le) → (nd ≤ n ∧ n ≤ 6998 ∧ n < nd1) → (sy ≤ sy1) → (sy1 ≤ na1 + 2) → (0 ≤ op1 ∧ op1 ≤ 9) → (nd1 - nd ≤ 2 * at1 - 2 * at0 + 8) → wj X d jm297 (116, L, [], rV c0 c1 Gx Ax T) (fun o V' => ∃ (G' : Nat → Int) (A' : Nat → Nat → Int) (r : Int) (ln2 : Int) (at2 : Int) (fk2 : Int) (nd2 : Int) (sy2 : Int) (na2 : Int) (vi2 : Int) (lf2 : Int) (ec2 : Int), V' = rV c0 c1 G' A' T ∧ o = .inl (some (.int (i32 r))) ∧ Wk G' A' ∧ Fr [9, 10, 11, 12, 13, 14, 15, 16, 17, 18, 19, 28, 29, 31] [6, 7, 8, 9, 10, 11, 12, 14, 15, 16, 17, 18, 19, 20, 21, 22, 23, 24, 28] G A G' A' ∧ Pf nd A A' ∧ Fx sr (sy) A A' ∧ Fx [14] (vi) A A' ∧ ((-2147483648 : Int) ≤ r ∧ r ≤ 2147483647) ∧ G' 9 = ln2 ∧ G' 10 = at2 ∧ G' 16 = fk2 ∧ G' 31 = nd2 ∧ G' 19 = sy2 ∧ G' 28 = na2 ∧ G' 29 = vi2 ∧ A' 3 (ln2).toNat = lf2 ∧ ecn A' (G' 31) = ec2 ∧ (at0 ≤ at2) ∧ (nd ≤ nd2) ∧ (sy ≤ sy2) ∧ (sy2 ≤ na2 + 2) ∧ (vi ≤ vi2) ∧ (vi2 ≤ vi + 1) ∧ (0 ≤ r) ∧ (r ≤ 6999) ∧ (ln ≤ ln2) ∧ (ln2 ≤ li) ∧ (((1 ≤ fk2) ∧ (nd2 - nd ≤ 2 * at2 - (2 * at0 - tz tk0) + 14)) ∨ ((fk2 = 0) ∧ (vi2 = vi) ∧ (ln < ln2) ∧ (nd2 - nd ≤ 2 * at2 - (2 * at0 - tz tk0)) ∧ (at2 < lf2 ∨ li ≤ ln2) ∧ (nd ≤ r) ∧ (r < nd2) ∧ (wSt A' (sy2) pb (wP A' (sy2) pb (k)) (Vs) (r) (nd) (nd2) (sy) (sy2)) ∧ (NX A' (r)) ∧ (nd2 - nd + 5 * (ec2 - ec) ≤ 2 * at2 - (2 * at0 - tz tk0)) ∧ (NdM A' (nd) (nd2) (sy))))) := by
  have hF0 : Fr [9, 10, 11, 12, 13, 14, 15, 16, 17, 18, 19, 28, 29, 31] [6, 7, 8, 9, 10, 11, 12, 14, 15, 16, 17, 18, 19, 20, 21, 22, 23, 24, 28] G A G A := Fr_rf
  have hP0 : Pf nd A A := Pf_rf
  have hS0 : Fx sr (sy) A A := Fx_rf
  have hV0 : Fx [14] (vi) A A := Fx_rf
  have b_ln : (0 : Int) ≤ ln ∧ ln ≤ 3000 := e_ln ▸ hW.1 9
  have b_li : (0 : Int) ≤ li ∧ li ≤ 3000 := e_li ▸ hW.1 3
  have b_at0 : (0 : Int) ≤ at0 ∧ at0 ≤ 3002 := e_at0 ▸ hW.1 10
  have b_fk : (0 : Int) ≤ fk ∧ fk ≤ 6 := e_fk ▸ hW.1 16
  have b_nd : (0 : Int) ≤ nd ∧ nd ≤ 6999 := e_nd ▸ hW.1 31
  have b_sy : (0 : Int) ≤ sy ∧ sy ≤ 202 := e_sy ▸ hW.1 19
  have b_na : (0 : Int) ≤ na ∧ na ≤ 200 := e_na ▸ hW.1 28
  have b_vi : (0 : Int) ≤ vi ∧ vi ≤ 202 := e_vi ▸ hW.1 29
  have b_le : (0 : Int) ≤ le ∧ le ≤ 3000 := e_le ▸ hW.2 4 _
  have b_op0 : (-2147483648 : Int) ≤ op0 ∧ op0 ≤ 2147483647 := e_op0 ▸ hW.1 15
  have z_tk0 := tz_f tk0
  have b_tk0 : (0 : Int) ≤ tk0 ∧ tk0 ≤ 5 := e_tk0 ▸ hW.1 11
  intro L Gx Ax n at1 tk1 fk1 nd1 op1 sy1 na1 ec1 gL_0 gL_1 gL_2 hWx hFx hPx hSx hVx ex_at1 ex_tk1 ex_fk1 ex_nd1 ex_op1 ex_sy1 ex_na1 ex_ec1 fx_9 fx_29 rx_n iv_0 iv_1 iv_2 iv_3 iv_4 iv_5 iv_6 iv_7
  have b_at1 : (0 : Int) ≤ at1 ∧ at1 ≤ 3002 := ex_at1 ▸ hWx.1 10
  have z_tk1 := tz_f tk1
  have b_tk1 : (0 : Int) ≤ tk1 ∧ tk1 ≤ 5 := ex_tk1 ▸ hWx.1 11
  have b_fk1 : (0 : Int) ≤ fk1 ∧ fk1 ≤ 6 := ex_fk1 ▸ hWx.1 16
  have b_nd1 : (0 : Int) ≤ nd1 ∧ nd1 ≤ 6999 := ex_nd1 ▸ hWx.1 31
  have b_op1 : (-2147483648 : Int) ≤ op1 ∧ op1 ≤ 2147483647 := ex_op1 ▸ hWx.1 15
  have b_sy1 : (0 : Int) ≤ sy1 ∧ sy1 ≤ 202 := ex_sy1 ▸ hWx.1 19
  have b_na1 : (0 : Int) ≤ na1 ∧ na1 ≤ 200 := ex_na1 ▸ hWx.1 28
  refine jx_ld (pc' := 117) (l' := L) (st' := [.ref 66]) rfl (jl_aloadn gL_0) ?_
  refine jr_get (pc' := 120) (i := 37) (v := .ref 87) rfl rfl (by decide) rfl rfl ?_
  refine jx_ld (pc' := 121) (l' := L) (st' := [.int (i32 (n)), .ref 87]) rfl (jl_iloadn gL_2) ?_
  refine jx_ld (pc' := 122) (l' := L) (st' := [.ref 66, .int (i32 (n)), .ref 87]) rfl (jl_aloadn gL_0) ?_
  refine jx_vr (pc' := 125) (as := []) (st := [.int (i32 (n)), .ref 87]) rfl rfl rfl rfl ⟨rfl, rfl, Nat.le_of_ble_eq_true rfl⟩ rfl rfl (REw_all X 9 (dd := d) (hd := by omega) (hW := hWx)  (ln := ln) (e_ln := show Gx 9 = ln from (fx_9)) (le := le) (e_le := show Ax 4 (ln).toNat = le from (congrFun (hFx.2 4 rfl) _).trans (e_le)) (at0 := at1) (e_at0 := show Gx 10 = at1 from (ex_at1)) (fk := fk1) (e_fk := show Gx 16 = fk1 from (ex_fk1)) (op0 := op1) (e_op0 := show Gx 15 = op1 from (ex_op1)) (nd := nd1) (e_nd := show Gx 31 = nd1 from (ex_nd1)) (tk0 := tk1) (e_tk0 := show Gx 11 = tk1 from (ex_tk1)) (ec := ec1) (e_ec := show ecn Ax (Gx 31) = ec1 from ex_ec1) (sy := sy1) (e_sy := show Gx 19 = sy1 from (ex_sy1)) (i_SV := (SV_fx i_SV e_vi (show Gx 29 = vi from (fx_29)) (by omega) hVx))   (p_0 := by omega) (p_1 := by omega) (p_2 := by omega) (p_3 := by omega) (p_4 := by omega) (p_5 := by omega)) (fun o V' hq => ?_)
  obtain ⟨G26, A27, r28, at2_29, fk2_30, op2_31, nd2_32, tk2_33, ec2_34, rfl, rfl, hW35, hF36, hQ37, b38, e39, e40, e41, e42, e43, e44, p45, p46, p47, p48, p49, p50, q51⟩ := hq
  have hF52 := Fr_tr hFx hF36 (Fr_sub (by decide)) (Fr_sub (by decide))
  have hP53 := Pf_tr hPx hQ37 (by omega)
  have hS54 := Fx_f hSx hF36 (by decide)
  have hV55 := Fx_f hVx hF36 (by decide)
  have bat2_29 : (0 : Int) ≤ at2_29 ∧ at2_29 ≤ 3002 := e39 ▸ hW35.1 10
  have bfk2_30 : (0 : Int) ≤ fk2_30 ∧ fk2_30 ≤ 6 := e40 ▸ hW35.1 16
  have bop2_31 : (-2147483648 : Int) ≤ op2_31 ∧ op2_31 ≤ 2147483647 := e41 ▸ hW35.1 15
  have bnd2_32 : (0 : Int) ≤ nd2_32 ∧ nd2_32 ≤ 6999 := e42 ▸ hW35.1 31
  have ztk2_33 := tz_b tk2_33
  have btk2_33 : (0 : Int) ≤ tk2_33 ∧ tk2_33 ≤ 5 := e43 ▸ hW35.1 11
  refine .inr ⟨_, rfl, ?_⟩
  rcases q51 with ⟨a56, a57, a58, a59, a60, a61⟩ | ⟨a62, a63, a64⟩ | ⟨a65, a66, a67, a68, a69, a70, a71⟩
  · have _q : True := trivial
    refine jr_st (pc' := 126) (i := 20) (m := 7000) (z := n) (y := r28) rfl (by decide) rfl (by decide) (by omega) (by omega) rfl ?_
    have hW73 : Wk G26 (uA A27 20 (n).toNat (r28)) := Wk_a hW35 (show (-2147483648 : Int) ≤ r28 by omega) (show r28 ≤ (2147483647 : Int) by omega)
    have hF74 := Fr_a (z := r28) (k := 20) (n := (n).toNat) hF52 (by decide)
    obtain ⟨A72, eA72⟩ : ∃ q, q = uA A27 20 (n).toNat (r28) := ⟨_, rfl⟩
    rw [← eA72]
    rw [← eA72] at hW73 hF74
    have q75 : A72 20 (n).toNat = r28 := by rw [eA72]; exact uA_eq
    have hP76 : Pf nd A A72 := eA72 ▸ Pf_a hP53 (z := n) (by omega) (by omega)
    have hS77 : Fx sr (sy) A A72 := eA72 ▸ Fx_n hS54 rfl
    have hV78 : Fx [14] (vi) A A72 := eA72 ▸ Fx_n hV55 rfl
    have ec79 : ecn A72 (G26 31) = ec2_34 := (ecn_e ((congrFun eA72 15).trans (uA_ne (by decide)))).trans e44
    have z80 := tz_f (tk2_33)
    exact c_readSeq_w_at_126p (X := X) (k := k) (hP := hP) (d := d) (Vs := Vs) (sb := sb) (pb := pb) (hvb := hvb) (c0 := c0) (c1 := c1) (G := G) (A := A) (T := T) (lv := lv) (ln := ln) (li := li) (at0 := at0) (fk := fk) (nd := nd) (sy := sy) (na := na) (vi := vi) (le := le) (op0 := op0) (tk0 := tk0) (ec := ec) (hd := hd) (hW := hW) (e_ln := e_ln) (e_li := e_li) (e_at0 := e_at0) (e_fk := e_fk) (e_nd := e_nd) (e_sy := e_sy) (e_na := e_na) (e_vi := e_vi) (e_le := e_le) (e_op0 := e_op0) (e_tk0 := e_tk0) (e_ec := e_ec) (i_LT := i_LT) (i_SV := i_SV) (i_PQ := i_PQ) (h_lv := h_lv) (p_0 := p_0) (p_1 := p_1) (p_2 := p_2) (p_3 := p_3) (p_4 := p_4) (p_5 := p_5) (p_6 := p_6) (p_7 := p_7) (p_8 := p_8) (p_9 := p_9) (p_10 := p_10) L G26 A72 (n) (at2_29) (tk2_33) (fk2_30) (nd2_32) (op2_31) (sy1) (na1) (ec2_34) gL_0 gL_1 gL_2 hW73 hF74 hP76 hS77 hV78 ((e39)) ((e43)) ((e40)) ((e42)) ((e41)) (((hF36.1 19 rfl).trans (ex_sy1))) (((hF36.1 28 rfl).trans (ex_na1))) (ec79) (((hF36.1 9 rfl).trans (fx_9))) (((hF36.1 29 rfl).trans (fx_29))) (by omega) (by omega) (by omega) (by omega) (by omega) (by omega) (by omega) (by omega) (by omega)
  · have _q : True := trivial
    exfalso
    omega
  · have _q : True := trivial
    exfalso
    omega
set_option maxRecDepth 20000 in
set_option maxHeartbeats 4000000 in
theorem c_readSeq_w_at_106p {X : jX} {k : Nat} (hP : RPw X k) {d : Nat} {Vs : Nat → Prop} {sb pb : Int} (hvb : VB Vs sb) {c0 c1 : jC} {G : Nat → Int} {A : Nat → Nat → Int} {T : jH} {lv : Int} {ln li at0 fk nd sy na vi le op0 tk0 ec : Int} (hd : 8 * k + 82 ≤ d + 1) (hW : Wk G A) (e_ln : G 9 = ln) (e_li : G 3 = li) (e_at0 : G 10 = at0) (e_fk : G 16 = fk) (e_nd : G 31 = nd) (e_sy : G 19 = sy) (e_na : G 28 = na) (e_vi : G 29 = vi) (e_le : A 4 (ln).toNat = le) (e_op0 : G 15 = op0) (e_tk0 : G 11 = tk0) (e_ec : ecn A (G 31) = ec) (i_LT : LT G A) (i_SV : SV Vs sb G A) (i_PQ : PQ Vs sb pb G A) (h_lv : (-2147483648 : Int) ≤ lv ∧ lv ≤ 2147483647) (p_0 : 0 ≤ lv ∧ lv ≤ 15) (p_1 : 18 - lv ≤ ((k + 1 : Nat) : Int)) (p_2 : fk = 0) (p_3 : ln < li) (p_4 : at0 ≤ le) (p_5 : op0 = 0) (p_6 : nd ≤ 2 * at0 - tz tk0 + 30) (p_7 : sy ≤ na + 2) (p_8 : vi ≤ sy) (p_9 : sb = sy) (p_10 : 1 ≤ tk0) : ∀ (L : jL) (Gx : Nat → Int) (Ax : Nat → Nat → Int) (n at1 tk1 fk1 nd1 op1 sy1 na1 ec1 : Int), jGet L 0 = some (.ref 66) → jGet L 1 = some (.int (i32 (lv))) → jGet L 2 = some (.int (i32 n)) → Wk Gx Ax → Fr [9, 10, 11, 12, 13, 14, 15, 16, 17, 18, 19, 28, 29, 31] [6, 7, 8, 9, 10, 11, 12, 14, 15, 16, 17, 18, 19, 20, 21, 22, 23, 24, 28] G A Gx Ax → Pf nd A Ax → Fx sr (sy) A Ax → Fx [14] (vi) A Ax → Gx 10 = at1 → Gx 11 = tk1 → Gx 16 = fk1 → Gx 31 = nd1 → Gx 15 = op1 → Gx 19 = sy1 → Gx 28 = na1 → ecn Ax (Gx 31) = ec1 → Gx 9 = ln → Gx 29 = vi → ((-2147483648 : Int) ≤ n ∧ n ≤ 2147483647) → (1 ≤ fk1) → (at0 ≤ at1) → (at1 ≤ le) → (nd ≤ n ∧ n ≤ 6998 ∧ n < nd1) → (sy ≤ sy1) → (sy1 ≤ na1 + 2) → (0 ≤ op1 ∧ op1 ≤ 9) → (nd1 - nd ≤ 2 * at1 - 2 * at0 + 8) → wj X d jm297 (106, L, [], rV c0 c1 Gx Ax T) (fun o V' => ∃ (G' : Nat → Int) (A' : Nat → Nat → Int) (r : Int) (ln2 : Int) (at2 : Int) (fk2 : Int) (nd2 : Int) (sy2 : Int) (na2 : Int) (vi2 : Int) (lf2 : Int) (ec2 : Int), V' = rV c0 c1 G' A' T ∧ o = .inl (some (.int (i32 r))) ∧ Wk G' A' ∧ Fr [9, 10, 11, 12, 13, 14, 15, 16, 17, 18, 19, 28, 29, 31] [6, 7, 8, 9, 10, 11, 12, 14, 15, 16, 17, 18, 19, 20, 21, 22, 23, 24, 28] G A G' A' ∧ Pf nd A A' ∧ Fx sr (sy) A A' ∧ Fx [14] (vi) A A' ∧ ((-2147483648 : Int) ≤ r ∧ r ≤ 2147483647) ∧ G' 9 = ln2 ∧ G' 10 = at2 ∧ G' 16 = fk2 ∧ G' 31 = nd2 ∧ G' 19 = sy2 ∧ G' 28 = na2 ∧ G' 29 = vi2 ∧ A' 3 (ln2).toNat = lf2 ∧ ecn A' (G' 31) = ec2 ∧ (at0 ≤ at2) ∧ (nd ≤ nd2) ∧ (sy ≤ sy2) ∧ (sy2 ≤ na2 + 2) ∧ (vi ≤ vi2) ∧ (vi2 ≤ vi + 1) ∧ (0 ≤ r) ∧ (r ≤ 6999) ∧ (ln ≤ ln2) ∧ (ln2 ≤ li) ∧ (((1 ≤ fk2) ∧ (nd2 - nd ≤ 2 * at2 - (2 * at0 - tz tk0) + 14)) ∨ ((fk2 = 0) ∧ (vi2 = vi) ∧ (ln < ln2) ∧ (nd2 - nd ≤ 2 * at2 - (2 * at0 - tz tk0)) ∧ (at2 < lf2 ∨ li ≤ ln2) ∧ (nd ≤ r) ∧ (r < nd2) ∧ (wSt A' (sy2) pb (wP A' (sy2) pb (k)) (Vs) (r) (nd) (nd2) (sy) (sy2)) ∧ (NX A' (r)) ∧ (nd2 - nd + 5 * (ec2 - ec) ≤ 2 * at2 - (2 * at0 - tz tk0)) ∧ (NdM A' (nd) (nd2) (sy))))) := by
  have hF0 : Fr [9, 10, 11, 12, 13, 14, 15, 16, 17, 18, 19, 28, 29, 31] [6, 7, 8, 9, 10, 11, 12, 14, 15, 16, 17, 18, 19, 20, 21, 22, 23, 24, 28] G A G A := Fr_rf
  have hP0 : Pf nd A A := Pf_rf
  have hS0 : Fx sr (sy) A A := Fx_rf
  have hV0 : Fx [14] (vi) A A := Fx_rf
  have b_ln : (0 : Int) ≤ ln ∧ ln ≤ 3000 := e_ln ▸ hW.1 9
  have b_li : (0 : Int) ≤ li ∧ li ≤ 3000 := e_li ▸ hW.1 3
  have b_at0 : (0 : Int) ≤ at0 ∧ at0 ≤ 3002 := e_at0 ▸ hW.1 10
  have b_fk : (0 : Int) ≤ fk ∧ fk ≤ 6 := e_fk ▸ hW.1 16
  have b_nd : (0 : Int) ≤ nd ∧ nd ≤ 6999 := e_nd ▸ hW.1 31
  have b_sy : (0 : Int) ≤ sy ∧ sy ≤ 202 := e_sy ▸ hW.1 19
  have b_na : (0 : Int) ≤ na ∧ na ≤ 200 := e_na ▸ hW.1 28
  have b_vi : (0 : Int) ≤ vi ∧ vi ≤ 202 := e_vi ▸ hW.1 29
  have b_le : (0 : Int) ≤ le ∧ le ≤ 3000 := e_le ▸ hW.2 4 _
  have b_op0 : (-2147483648 : Int) ≤ op0 ∧ op0 ≤ 2147483647 := e_op0 ▸ hW.1 15
  have z_tk0 := tz_f tk0
  have b_tk0 : (0 : Int) ≤ tk0 ∧ tk0 ≤ 5 := e_tk0 ▸ hW.1 11
  intro L Gx Ax n at1 tk1 fk1 nd1 op1 sy1 na1 ec1 gL_0 gL_1 gL_2 hWx hFx hPx hSx hVx ex_at1 ex_tk1 ex_fk1 ex_nd1 ex_op1 ex_sy1 ex_na1 ex_ec1 fx_9 fx_29 rx_n iv_0 iv_1 iv_2 iv_3 iv_4 iv_5 iv_6 iv_7
  have b_at1 : (0 : Int) ≤ at1 ∧ at1 ≤ 3002 := ex_at1 ▸ hWx.1 10
  have z_tk1 := tz_f tk1
  have b_tk1 : (0 : Int) ≤ tk1 ∧ tk1 ≤ 5 := ex_tk1 ▸ hWx.1 11
  have b_fk1 : (0 : Int) ≤ fk1 ∧ fk1 ≤ 6 := ex_fk1 ▸ hWx.1 16
  have b_nd1 : (0 : Int) ≤ nd1 ∧ nd1 ≤ 6999 := ex_nd1 ▸ hWx.1 31
  have b_op1 : (-2147483648 : Int) ≤ op1 ∧ op1 ≤ 2147483647 := ex_op1 ▸ hWx.1 15
  have b_sy1 : (0 : Int) ≤ sy1 ∧ sy1 ≤ 202 := ex_sy1 ▸ hWx.1 19
  have b_na1 : (0 : Int) ≤ na1 ∧ na1 ≤ 200 := ex_na1 ▸ hWx.1 28
  refine jx_ld (pc' := 107) (l' := L) (st' := [.ref 66]) rfl (jl_aloadn gL_0) ?_
  refine jx_ld (pc' := 108) (l' := L) (st' := [.ref 66, .ref 66]) rfl (jl_aloadn gL_0) ?_
  refine jx_ar (pc' := 110) (st' := [.int (i32 (13)), .ref 66, .ref 66]) rfl rfl rfl rfl ?_
  have b81 : (-2147483648 : Int) ≤ Gx 13 ∧ Gx 13 ≤ 2147483647 := hWx.1 13
  refine jx_vr (pc' := 113) (as := [.int (i32 (13))]) (st := [.ref 66]) rfl rfl rfl rfl ⟨rfl, rfl, Nat.le_of_ble_eq_true rfl⟩ rfl rfl (c_isKey (dd := d) (hd := by omega) (hW := hWx) (k := 13) (tk := tk1) (e_tk := show Gx 11 = tk1 from (ex_tk1)) (tn := Gx 13) (e_tn := show Gx 13 = Gx 13 from rfl)  (h_k := ⟨(by decide), (by decide)⟩)  ) (fun o V' hq => ?_)
  obtain ⟨r82, rfl, rfl, b83, q84⟩ := hq
  refine .inr ⟨_, rfl, ?_⟩
  rcases q84 with ⟨rfl, a85, a86, a87⟩ | rfl
  · have _q : True := trivial
    refine jx_vr (pc' := 116) (as := [.int (i32 (1))]) (st := []) rfl rfl rfl rfl ⟨rfl, rfl, Nat.le_of_ble_eq_true rfl⟩ rfl rfl (c_need (dd := d) (hd := by omega) (hW := hWx) (g := 1) (ln := ln) (e_ln := show Gx 9 = ln from (fx_9)) (le := le) (e_le := show Ax 4 (ln).toNat = le from (congrFun (hFx.2 4 rfl) _).trans (e_le)) (at0 := at1) (e_at0 := show Gx 10 = at1 from (ex_at1)) (fk := fk1) (e_fk := show Gx 16 = fk1 from (ex_fk1)) (tk0 := tk1) (e_tk0 := show Gx 11 = tk1 from (ex_tk1))  (h_g := ⟨(by decide), (by decide)⟩)  (p_0 := by omega)) (fun o V' hq => ?_)
    obtain ⟨G88, A89, at2_90, tk2_91, fk2_92, rfl, rfl, hW93, hF94, e95, e96, e97, p98, p99, q100⟩ := hq
    have hF101 := Fr_tr hFx hF94 (Fr_sub (by decide)) (Fr_sub (by decide))
    have hP102 := Pf_f hPx hF94 (by decide)
    have hS103 := Fx_f hSx hF94 (by decide)
    have hV104 := Fx_f hVx hF94 (by decide)
    have ec105 : ecn A89 (G88 31) = ec1 := (ecn_f (hF94.2 15 rfl) (hF94.1 31 rfl)).trans ex_ec1
    have bat2_90 : (0 : Int) ≤ at2_90 ∧ at2_90 ≤ 3002 := e95 ▸ hW93.1 10
    have ztk2_91 := tz_b tk2_91
    have btk2_91 : (0 : Int) ≤ tk2_91 ∧ tk2_91 ≤ 5 := e96 ▸ hW93.1 11
    have bfk2_92 : (0 : Int) ≤ fk2_92 ∧ fk2_92 ≤ 6 := e97 ▸ hW93.1 16
    refine .inl ⟨rfl, ?_⟩
    rcases q100 with ⟨a106, a107, a108, a109⟩ | ⟨a110, a111, a112, a113⟩
    · have _q : True := trivial
      have z114 := tz_f (tk2_91)
      exact c_readSeq_w_at_116p (X := X) (k := k) (hP := hP) (d := d) (Vs := Vs) (sb := sb) (pb := pb) (hvb := hvb) (c0 := c0) (c1 := c1) (G := G) (A := A) (T := T) (lv := lv) (ln := ln) (li := li) (at0 := at0) (fk := fk) (nd := nd) (sy := sy) (na := na) (vi := vi) (le := le) (op0 := op0) (tk0 := tk0) (ec := ec) (hd := hd) (hW := hW) (e_ln := e_ln) (e_li := e_li) (e_at0 := e_at0) (e_fk := e_fk) (e_nd := e_nd) (e_sy := e_sy) (e_na := e_na) (e_vi := e_vi) (e_le := e_le) (e_op0 := e_op0) (e_tk0 := e_tk0) (e_ec := e_ec) (i_LT := i_LT) (i_SV := i_SV) (i_PQ := i_PQ) (h_lv := h_lv) (p_0 := p_0) (p_1 := p_1) (p_2 := p_2) (p_3 := p_3) (p_4 := p_4) (p_5 := p_5) (p_6 := p_6) (p_7 := p_7) (p_8 := p_8) (p_9 := p_9) (p_10 := p_10) L G88 A89 (n) (at2_90) (tk2_91) (fk2_92) (nd1) (op1) (sy1) (na1) (ec1) gL_0 gL_1 gL_2 hW93 hF101 hP102 hS103 hV104 ((e95)) ((e96)) ((e97)) (((hF94.1 31 rfl).trans (ex_nd1))) (((hF94.1 15 rfl).trans (ex_op1))) (((hF94.1 19 rfl).trans (ex_sy1))) (((hF94.1 28 rfl).trans (ex_na1))) (ec105) (((hF94.1 9 rfl).trans (fx_9))) (((hF94.1 29 rfl).trans (fx_29))) (by omega) (by omega) (by omega) (by omega) (by omega) (by omega) (by omega) (by omega) (by omega)
    · have _q : True := trivial
      exfalso
      omega
  · have _q : True := trivial
    refine jx_vr (pc' := 116) (as := [.int (i32 (0))]) (st := []) rfl rfl rfl rfl ⟨rfl, rfl, Nat.le_of_ble_eq_true rfl⟩ rfl rfl (c_need (dd := d) (hd := by omega) (hW := hWx) (g := 0) (ln := ln) (e_ln := show Gx 9 = ln from (fx_9)) (le := le) (e_le := show Ax 4 (ln).toNat = le from (congrFun (hFx.2 4 rfl) _).trans (e_le)) (at0 := at1) (e_at0 := show Gx 10 = at1 from (ex_at1)) (fk := fk1) (e_fk := show Gx 16 = fk1 from (ex_fk1)) (tk0 := tk1) (e_tk0 := show Gx 11 = tk1 from (ex_tk1))  (h_g := ⟨(by decide), (by decide)⟩)  (p_0 := by omega)) (fun o V' hq => ?_)
    obtain ⟨G115, A116, at2_117, tk2_118, fk2_119, rfl, rfl, hW120, hF121, e122, e123, e124, p125, p126, q127⟩ := hq
    have hF128 := Fr_tr hFx hF121 (Fr_sub (by decide)) (Fr_sub (by decide))
    have hP129 := Pf_f hPx hF121 (by decide)
    have hS130 := Fx_f hSx hF121 (by decide)
    have hV131 := Fx_f hVx hF121 (by decide)
    have ec132 : ecn A116 (G115 31) = ec1 := (ecn_f (hF121.2 15 rfl) (hF121.1 31 rfl)).trans ex_ec1
    have bat2_117 : (0 : Int) ≤ at2_117 ∧ at2_117 ≤ 3002 := e122 ▸ hW120.1 10
    have ztk2_118 := tz_b tk2_118
    have btk2_118 : (0 : Int) ≤ tk2_118 ∧ tk2_118 ≤ 5 := e123 ▸ hW120.1 11
    have bfk2_119 : (0 : Int) ≤ fk2_119 ∧ fk2_119 ≤ 6 := e124 ▸ hW120.1 16
    refine .inl ⟨rfl, ?_⟩
    rcases q127 with ⟨a133, a134, a135, a136⟩ | ⟨a137, a138, a139, a140⟩
    · have _q : True := trivial
      have z141 := tz_f (tk2_118)
      exact c_readSeq_w_at_116p (X := X) (k := k) (hP := hP) (d := d) (Vs := Vs) (sb := sb) (pb := pb) (hvb := hvb) (c0 := c0) (c1 := c1) (G := G) (A := A) (T := T) (lv := lv) (ln := ln) (li := li) (at0 := at0) (fk := fk) (nd := nd) (sy := sy) (na := na) (vi := vi) (le := le) (op0 := op0) (tk0 := tk0) (ec := ec) (hd := hd) (hW := hW) (e_ln := e_ln) (e_li := e_li) (e_at0 := e_at0) (e_fk := e_fk) (e_nd := e_nd) (e_sy := e_sy) (e_na := e_na) (e_vi := e_vi) (e_le := e_le) (e_op0 := e_op0) (e_tk0 := e_tk0) (e_ec := e_ec) (i_LT := i_LT) (i_SV := i_SV) (i_PQ := i_PQ) (h_lv := h_lv) (p_0 := p_0) (p_1 := p_1) (p_2 := p_2) (p_3 := p_3) (p_4 := p_4) (p_5 := p_5) (p_6 := p_6) (p_7 := p_7) (p_8 := p_8) (p_9 := p_9) (p_10 := p_10) L G115 A116 (n) (at2_117) (tk2_118) (fk2_119) (nd1) (op1) (sy1) (na1) (ec1) gL_0 gL_1 gL_2 hW120 hF128 hP129 hS130 hV131 ((e122)) ((e123)) ((e124)) (((hF121.1 31 rfl).trans (ex_nd1))) (((hF121.1 15 rfl).trans (ex_op1))) (((hF121.1 19 rfl).trans (ex_sy1))) (((hF121.1 28 rfl).trans (ex_na1))) (ec132) (((hF121.1 9 rfl).trans (fx_9))) (((hF121.1 29 rfl).trans (fx_29))) (by omega) (by omega) (by omega) (by omega) (by omega) (by omega) (by omega) (by omega) (by omega)
    · have _q : True := trivial
      exfalso
      omega
set_option maxRecDepth 20000 in
set_option maxHeartbeats 4000000 in
theorem c_readSeq_w_at_106 {X : jX} {k : Nat} (hP : RPw X k) {d : Nat} {Vs : Nat → Prop} {sb pb : Int} (hvb : VB Vs sb) {c0 c1 : jC} {G : Nat → Int} {A : Nat → Nat → Int} {T : jH} {lv : Int} {ln li at0 fk nd sy na vi le op0 tk0 ec : Int} (hd : 8 * k + 82 ≤ d + 1) (hW : Wk G A) (e_ln : G 9 = ln) (e_li : G 3 = li) (e_at0 : G 10 = at0) (e_fk : G 16 = fk) (e_nd : G 31 = nd) (e_sy : G 19 = sy) (e_na : G 28 = na) (e_vi : G 29 = vi) (e_le : A 4 (ln).toNat = le) (e_op0 : G 15 = op0) (e_tk0 : G 11 = tk0) (e_ec : ecn A (G 31) = ec) (i_LT : LT G A) (i_SV : SV Vs sb G A) (i_PQ : PQ Vs sb pb G A) (h_lv : (-2147483648 : Int) ≤ lv ∧ lv ≤ 2147483647) (p_0 : 0 ≤ lv ∧ lv ≤ 15) (p_1 : 18 - lv ≤ ((k + 1 : Nat) : Int)) (p_2 : fk = 0) (p_3 : ln < li) (p_4 : at0 ≤ le) (p_5 : op0 = 0) (p_6 : nd ≤ 2 * at0 - tz tk0 + 30) (p_7 : sy ≤ na + 2) (p_8 : vi ≤ sy) (p_9 : sb = sy) (p_10 : 1 ≤ tk0) : ∀ (L : jL) (Gx : Nat → Int) (Ax : Nat → Nat → Int) (n at1 tk1 fk1 nd1 op1 sy1 na1 sa1 ka1 exc ec1 : Int), jGet L 0 = some (.ref 66) → jGet L 1 = some (.int (i32 (lv))) → jGet L 2 = some (.int (i32 n)) → Wk Gx Ax → Fr [9, 10, 11, 12, 13, 14, 15, 16, 17, 18, 19, 28, 29, 31] [6, 7, 8, 9, 10, 11, 12, 14, 15, 16, 17, 18, 19, 20, 21, 22, 23, 24, 28] G A Gx Ax → Pf nd A Ax → Fx sr (sy) A Ax → Fx [14] (vi) A Ax → Gx 10 = at1 → Gx 11 = tk1 → Gx 16 = fk1 → Gx 31 = nd1 → Gx 15 = op1 → Gx 19 = sy1 → Gx 28 = na1 → Ax 17 (n).toNat = sa1 → Ax 7 (sa1).toNat = ka1 → Ax 19 (n).toNat = exc → ecn Ax (Gx 31) = ec1 → Gx 9 = ln → Gx 29 = vi → ((-2147483648 : Int) ≤ n ∧ n ≤ 2147483647) → (fk1 = 0) → (at0 ≤ at1) → (at1 ≤ le) → (n = nd) → (n ≤ 6998 ∧ n < nd1) → (sy1 = sy + 1) → (sa1 = sy) → (sy1 ≤ na1 + 2) → (op1 = 0) → (nd1 - nd ≤ (2 * at1 - tz tk1) - (2 * at0 - tz tk0)) → (ka1 = 9) → (ND Ax (n) (27) (sa1) (0) (exc) (0) (0) (0)) → (wE Ax Vs sb (20) (exc) (n + 1) (nd1)) → (nd1 - nd + 5 * (ec1 - ec) ≤ (2 * at1 - tz tk1) - (2 * at0 - tz tk0)) → (NdM Ax (nd) (nd1) (sy)) → wj X d jm297 (106, L, [], rV c0 c1 Gx Ax T) (fun o V' => ∃ (G' : Nat → Int) (A' : Nat → Nat → Int) (r : Int) (ln2 : Int) (at2 : Int) (fk2 : Int) (nd2 : Int) (sy2 : Int) (na2 : Int) (vi2 : Int) (lf2 : Int) (ec2 : Int), V' = rV c0 c1 G' A' T ∧ o = .inl (some (.int (i32 r))) ∧ Wk G' A' ∧ Fr [9, 10, 11, 12, 13, 14, 15, 16, 17, 18, 19, 28, 29, 31] [6, 7, 8, 9, 10, 11, 12, 14, 15, 16, 17, 18, 19, 20, 21, 22, 23, 24, 28] G A G' A' ∧ Pf nd A A' ∧ Fx sr (sy) A A' ∧ Fx [14] (vi) A A' ∧ ((-2147483648 : Int) ≤ r ∧ r ≤ 2147483647) ∧ G' 9 = ln2 ∧ G' 10 = at2 ∧ G' 16 = fk2 ∧ G' 31 = nd2 ∧ G' 19 = sy2 ∧ G' 28 = na2 ∧ G' 29 = vi2 ∧ A' 3 (ln2).toNat = lf2 ∧ ecn A' (G' 31) = ec2 ∧ (at0 ≤ at2) ∧ (nd ≤ nd2) ∧ (sy ≤ sy2) ∧ (sy2 ≤ na2 + 2) ∧ (vi ≤ vi2) ∧ (vi2 ≤ vi + 1) ∧ (0 ≤ r) ∧ (r ≤ 6999) ∧ (ln ≤ ln2) ∧ (ln2 ≤ li) ∧ (((1 ≤ fk2) ∧ (nd2 - nd ≤ 2 * at2 - (2 * at0 - tz tk0) + 14)) ∨ ((fk2 = 0) ∧ (vi2 = vi) ∧ (ln < ln2) ∧ (nd2 - nd ≤ 2 * at2 - (2 * at0 - tz tk0)) ∧ (at2 < lf2 ∨ li ≤ ln2) ∧ (nd ≤ r) ∧ (r < nd2) ∧ (wSt A' (sy2) pb (wP A' (sy2) pb (k)) (Vs) (r) (nd) (nd2) (sy) (sy2)) ∧ (NX A' (r)) ∧ (nd2 - nd + 5 * (ec2 - ec) ≤ 2 * at2 - (2 * at0 - tz tk0)) ∧ (NdM A' (nd) (nd2) (sy))))) := by
  have hF0 : Fr [9, 10, 11, 12, 13, 14, 15, 16, 17, 18, 19, 28, 29, 31] [6, 7, 8, 9, 10, 11, 12, 14, 15, 16, 17, 18, 19, 20, 21, 22, 23, 24, 28] G A G A := Fr_rf
  have hP0 : Pf nd A A := Pf_rf
  have hS0 : Fx sr (sy) A A := Fx_rf
  have hV0 : Fx [14] (vi) A A := Fx_rf
  have b_ln : (0 : Int) ≤ ln ∧ ln ≤ 3000 := e_ln ▸ hW.1 9
  have b_li : (0 : Int) ≤ li ∧ li ≤ 3000 := e_li ▸ hW.1 3
  have b_at0 : (0 : Int) ≤ at0 ∧ at0 ≤ 3002 := e_at0 ▸ hW.1 10
  have b_fk : (0 : Int) ≤ fk ∧ fk ≤ 6 := e_fk ▸ hW.1 16
  have b_nd : (0 : Int) ≤ nd ∧ nd ≤ 6999 := e_nd ▸ hW.1 31
  have b_sy : (0 : Int) ≤ sy ∧ sy ≤ 202 := e_sy ▸ hW.1 19
  have b_na : (0 : Int) ≤ na ∧ na ≤ 200 := e_na ▸ hW.1 28
  have b_vi : (0 : Int) ≤ vi ∧ vi ≤ 202 := e_vi ▸ hW.1 29
  have b_le : (0 : Int) ≤ le ∧ le ≤ 3000 := e_le ▸ hW.2 4 _
  have b_op0 : (-2147483648 : Int) ≤ op0 ∧ op0 ≤ 2147483647 := e_op0 ▸ hW.1 15
  have z_tk0 := tz_f tk0
  have b_tk0 : (0 : Int) ≤ tk0 ∧ tk0 ≤ 5 := e_tk0 ▸ hW.1 11
  intro L Gx Ax n at1 tk1 fk1 nd1 op1 sy1 na1 sa1 ka1 exc ec1 gL_0 gL_1 gL_2 hWx hFx hPx hSx hVx ex_at1 ex_tk1 ex_fk1 ex_nd1 ex_op1 ex_sy1 ex_na1 ex_sa1 ex_ka1 ex_exc ex_ec1 fx_9 fx_29 rx_n iv_0 iv_1 iv_2 iv_3 iv_4 iv_5 iv_6 iv_7 iv_8 iv_9 iv_10 iv_11 iv_12 iv_13 iv_14
  have b_at1 : (0 : Int) ≤ at1 ∧ at1 ≤ 3002 := ex_at1 ▸ hWx.1 10
  have z_tk1 := tz_f tk1
  have b_tk1 : (0 : Int) ≤ tk1 ∧ tk1 ≤ 5 := ex_tk1 ▸ hWx.1 11
  have b_fk1 : (0 : Int) ≤ fk1 ∧ fk1 ≤ 6 := ex_fk1 ▸ hWx.1 16
  have b_nd1 : (0 : Int) ≤ nd1 ∧ nd1 ≤ 6999 := ex_nd1 ▸ hWx.1 31
  have b_op1 : (-2147483648 : Int) ≤ op1 ∧ op1 ≤ 2147483647 := ex_op1 ▸ hWx.1 15
  have b_sy1 : (0 : Int) ≤ sy1 ∧ sy1 ≤ 202 := ex_sy1 ▸ hWx.1 19
  have b_na1 : (0 : Int) ≤ na1 ∧ na1 ≤ 200 := ex_na1 ▸ hWx.1 28
  refine jx_ld (pc' := 107) (l' := L) (st' := [.ref 66]) rfl (jl_aloadn gL_0) ?_
  refine jx_ld (pc' := 108) (l' := L) (st' := [.ref 66, .ref 66]) rfl (jl_aloadn gL_0) ?_
  refine jx_ar (pc' := 110) (st' := [.int (i32 (13)), .ref 66, .ref 66]) rfl rfl rfl rfl ?_
  have b142 : (-2147483648 : Int) ≤ Gx 13 ∧ Gx 13 ≤ 2147483647 := hWx.1 13
  refine jx_vr (pc' := 113) (as := [.int (i32 (13))]) (st := [.ref 66]) rfl rfl rfl rfl ⟨rfl, rfl, Nat.le_of_ble_eq_true rfl⟩ rfl rfl (c_isKey (dd := d) (hd := by omega) (hW := hWx) (k := 13) (tk := tk1) (e_tk := show Gx 11 = tk1 from (ex_tk1)) (tn := Gx 13) (e_tn := show Gx 13 = Gx 13 from rfl)  (h_k := ⟨(by decide), (by decide)⟩)  ) (fun o V' hq => ?_)
  obtain ⟨r143, rfl, rfl, b144, q145⟩ := hq
  refine .inr ⟨_, rfl, ?_⟩
  rcases q145 with ⟨rfl, a146, a147, a148⟩ | rfl
  · have _q : True := trivial
    refine jx_vr (pc' := 116) (as := [.int (i32 (1))]) (st := []) rfl rfl rfl rfl ⟨rfl, rfl, Nat.le_of_ble_eq_true rfl⟩ rfl rfl (c_need (dd := d) (hd := by omega) (hW := hWx) (g := 1) (ln := ln) (e_ln := show Gx 9 = ln from (fx_9)) (le := le) (e_le := show Ax 4 (ln).toNat = le from (congrFun (hFx.2 4 rfl) _).trans (e_le)) (at0 := at1) (e_at0 := show Gx 10 = at1 from (ex_at1)) (fk := fk1) (e_fk := show Gx 16 = fk1 from (ex_fk1)) (tk0 := tk1) (e_tk0 := show Gx 11 = tk1 from (ex_tk1))  (h_g := ⟨(by decide), (by decide)⟩)  (p_0 := by omega)) (fun o V' hq => ?_)
    obtain ⟨G149, A150, at2_151, tk2_152, fk2_153, rfl, rfl, hW154, hF155, e156, e157, e158, p159, p160, q161⟩ := hq
    have hF162 := Fr_tr hFx hF155 (Fr_sub (by decide)) (Fr_sub (by decide))
    have hP163 := Pf_f hPx hF155 (by decide)
    have hS164 := Fx_f hSx hF155 (by decide)
    have hV165 := Fx_f hVx hF155 (by decide)
    have sf166 : ND A150 (n) (27) (sa1) (0) (exc) (0) (0) (0) := ND_ag (by omega) (Ag_fr hF155 (by decide)) iv_11
    have sf167 : wE A150 Vs sb (20) (exc) (n + 1) (nd1) := wE_ag (by omega) (Sg_fr hF155 (by decide)) (Ag_fr hF155 (by decide)) iv_12
    have sf168 : NdM A150 (nd) (nd1) (sy) := NdM_f hF155 (by decide) iv_14
    have ec169 : ecn A150 (G149 31) = ec1 := (ecn_f (hF155.2 15 rfl) (hF155.1 31 rfl)).trans ex_ec1
    have bat2_151 : (0 : Int) ≤ at2_151 ∧ at2_151 ≤ 3002 := e156 ▸ hW154.1 10
    have ztk2_152 := tz_b tk2_152
    have btk2_152 : (0 : Int) ≤ tk2_152 ∧ tk2_152 ≤ 5 := e157 ▸ hW154.1 11
    have bfk2_153 : (0 : Int) ≤ fk2_153 ∧ fk2_153 ≤ 6 := e158 ▸ hW154.1 16
    refine .inl ⟨rfl, ?_⟩
    rcases q161 with ⟨a170, a171, a172, a173⟩ | ⟨a174, a175, a176, a177⟩
    · have _q : True := trivial
      have z178 := tz_f (tk2_152)
      exact c_readSeq_w_at_116p (X := X) (k := k) (hP := hP) (d := d) (Vs := Vs) (sb := sb) (pb := pb) (hvb := hvb) (c0 := c0) (c1 := c1) (G := G) (A := A) (T := T) (lv := lv) (ln := ln) (li := li) (at0 := at0) (fk := fk) (nd := nd) (sy := sy) (na := na) (vi := vi) (le := le) (op0 := op0) (tk0 := tk0) (ec := ec) (hd := hd) (hW := hW) (e_ln := e_ln) (e_li := e_li) (e_at0 := e_at0) (e_fk := e_fk) (e_nd := e_nd) (e_sy := e_sy) (e_na := e_na) (e_vi := e_vi) (e_le := e_le) (e_op0 := e_op0) (e_tk0 := e_tk0) (e_ec := e_ec) (i_LT := i_LT) (i_SV := i_SV) (i_PQ := i_PQ) (h_lv := h_lv) (p_0 := p_0) (p_1 := p_1) (p_2 := p_2) (p_3 := p_3) (p_4 := p_4) (p_5 := p_5) (p_6 := p_6) (p_7 := p_7) (p_8 := p_8) (p_9 := p_9) (p_10 := p_10) L G149 A150 (n) (at2_151) (tk2_152) (fk2_153) (nd1) (op1) (sy1) (na1) (ec1) gL_0 gL_1 gL_2 hW154 hF162 hP163 hS164 hV165 ((e156)) ((e157)) ((e158)) (((hF155.1 31 rfl).trans (ex_nd1))) (((hF155.1 15 rfl).trans (ex_op1))) (((hF155.1 19 rfl).trans (ex_sy1))) (((hF155.1 28 rfl).trans (ex_na1))) (ec169) (((hF155.1 9 rfl).trans (fx_9))) (((hF155.1 29 rfl).trans (fx_29))) (by omega) (by omega) (by omega) (by omega) (by omega) (by omega) (by omega) (by omega) (by omega)
    · have _q : True := trivial
      have pz179 : at1 + tz tk2_152 ≤ at2_151 := by omega
      refine jx_ld (pc' := 117) (l' := L) (st' := [.ref 66]) rfl (jl_aloadn gL_0) ?_
      refine jr_get (pc' := 120) (i := 37) (v := .ref 87) rfl rfl (by decide) rfl rfl ?_
      refine jx_ld (pc' := 121) (l' := L) (st' := [.int (i32 (n)), .ref 87]) rfl (jl_iloadn gL_2) ?_
      refine jx_ld (pc' := 122) (l' := L) (st' := [.ref 66, .int (i32 (n)), .ref 87]) rfl (jl_aloadn gL_0) ?_
      refine jx_vr (pc' := 125) (as := []) (st := [.int (i32 (n)), .ref 87]) rfl rfl rfl rfl ⟨rfl, rfl, Nat.le_of_ble_eq_true rfl⟩ rfl rfl (REw_all X 9 (dd := d) (hd := by omega) (hW := hW154)  (ln := ln) (e_ln := show G149 9 = ln from ((hF155.1 9 rfl).trans (fx_9))) (le := le) (e_le := show A150 4 (ln).toNat = le from (congrFun ((hF155.2 4 rfl).trans (hFx.2 4 rfl)) _).trans (e_le)) (at0 := at2_151) (e_at0 := show G149 10 = at2_151 from (e156)) (fk := fk2_153) (e_fk := show G149 16 = fk2_153 from (e158)) (op0 := op1) (e_op0 := show G149 15 = op1 from ((hF155.1 15 rfl).trans (ex_op1))) (nd := nd1) (e_nd := show G149 31 = nd1 from ((hF155.1 31 rfl).trans (ex_nd1))) (tk0 := tk2_152) (e_tk0 := show G149 11 = tk2_152 from (e157)) (ec := ec1) (e_ec := show ecn A150 (G149 31) = ec1 from ec169) (sy := sy1) (e_sy := show G149 19 = sy1 from ((hF155.1 19 rfl).trans (ex_sy1))) (i_SV := (SV_fx i_SV e_vi (show G149 29 = vi from ((hF155.1 29 rfl).trans (fx_29))) (by omega) hV165))   (p_0 := by omega) (p_1 := by omega) (p_2 := by omega) (p_3 := by omega) (p_4 := by omega) (p_5 := by omega)) (fun o V' hq => ?_)
      obtain ⟨G180, A181, r182, at2_183, fk2_184, op2_185, nd2_186, tk2_187, ec2_188, rfl, rfl, hW189, hF190, hQ191, b192, e193, e194, e195, e196, e197, e198, p199, p200, p201, p202, p203, p204, q205⟩ := hq
      have hF206 := Fr_tr hF162 hF190 (Fr_sub (by decide)) (Fr_sub (by decide))
      have k207 : A181 17 (n).toNat = sa1 := (hQ191 17 _ rfl (by omega)).trans (show A150 17 (n).toNat = sa1 from (congrFun (hF155.2 17 rfl) _).trans (ex_sa1))
      have k208 : A181 19 (n).toNat = exc := (hQ191 19 _ rfl (by omega)).trans (show A150 19 (n).toNat = exc from (congrFun (hF155.2 19 rfl) _).trans (ex_exc))
      have hP209 := Pf_tr hP163 hQ191 (by omega)
      have hS210 := Fx_f hS164 hF190 (by decide)
      have hV211 := Fx_f hV165 hF190 (by decide)
      have sf212 : ND A181 (n) (27) (sa1) (0) (exc) (0) (0) (0) := ND_ag (by omega) (Ag_pf hQ191 (by omega)) sf166
      have sf213 : wE A181 Vs sb (20) (exc) (n + 1) (nd1) := wE_ag (by omega) (Sg_fr hF190 (by decide)) (Ag_pf hQ191 (by omega)) sf167
      have sf214 : NdM A181 (nd) (nd1) (sy) := NdM_pf hQ191 (by omega) (by omega) sf168
      have bat2_183 : (0 : Int) ≤ at2_183 ∧ at2_183 ≤ 3002 := e193 ▸ hW189.1 10
      have bfk2_184 : (0 : Int) ≤ fk2_184 ∧ fk2_184 ≤ 6 := e194 ▸ hW189.1 16
      have bop2_185 : (-2147483648 : Int) ≤ op2_185 ∧ op2_185 ≤ 2147483647 := e195 ▸ hW189.1 15
      have bnd2_186 : (0 : Int) ≤ nd2_186 ∧ nd2_186 ≤ 6999 := e196 ▸ hW189.1 31
      have ztk2_187 := tz_b tk2_187
      have btk2_187 : (0 : Int) ≤ tk2_187 ∧ tk2_187 ≤ 5 := e197 ▸ hW189.1 11
      refine .inr ⟨_, rfl, ?_⟩
      rcases q205 with ⟨a215, a216, a217, a218, a219, a220⟩ | ⟨a221, a222, a223⟩ | ⟨a224, a225, a226, a227, a228, a229, a230⟩
      · have _q : True := trivial
        exfalso
        omega
      · have _q : True := trivial
        refine jr_st (pc' := 126) (i := 20) (m := 7000) (z := n) (y := r182) rfl (by decide) rfl (by decide) (by omega) (by omega) rfl ?_
        have hW232 : Wk G180 (uA A181 20 (n).toNat (r182)) := Wk_a hW189 (show (-2147483648 : Int) ≤ r182 by omega) (show r182 ≤ (2147483647 : Int) by omega)
        have hF233 := Fr_a (z := r182) (k := 20) (n := (n).toNat) hF206 (by decide)
        obtain ⟨A231, eA231⟩ : ∃ q, q = uA A181 20 (n).toNat (r182) := ⟨_, rfl⟩
        rw [← eA231]
        rw [← eA231] at hW232 hF233
        have q234 : A231 20 (n).toNat = r182 := by rw [eA231]; exact uA_eq
        have hP235 : Pf nd A A231 := eA231 ▸ Pf_a hP209 (z := n) (by omega) (by omega)
        have hS236 : Fx sr (sy) A A231 := eA231 ▸ Fx_n hS210 rfl
        have hV237 : Fx [14] (vi) A A231 := eA231 ▸ Fx_n hV211 rfl
        have sf238 : ND A231 (n) (27) (sa1) (0) (exc) (r182) (0) (0) := ND_d eA231 sf212
        have sf239 : wE A231 Vs sb (20) (exc) (n + 1) (nd1) := wE_ag (by omega) (Sg_ne eA231 rfl) (Ag_st eA231 (by omega) (by omega)) sf213
        have sf240 : NdM A231 (nd) (nd1) (sy) := NdM_st eA231 (by decide) sf214
        have ec241 : ecn A231 (G180 31) = ec2_188 := (ecn_e ((congrFun eA231 15).trans (uA_ne (by decide)))).trans e198
        have z242 := tz_f (tk2_187)
        exact c_readSeq_w_at_126p (X := X) (k := k) (hP := hP) (d := d) (Vs := Vs) (sb := sb) (pb := pb) (hvb := hvb) (c0 := c0) (c1 := c1) (G := G) (A := A) (T := T) (lv := lv) (ln := ln) (li := li) (at0 := at0) (fk := fk) (nd := nd) (sy := sy) (na := na) (vi := vi) (le := le) (op0 := op0) (tk0 := tk0) (ec := ec) (hd := hd) (hW := hW) (e_ln := e_ln) (e_li := e_li) (e_at0 := e_at0) (e_fk := e_fk) (e_nd := e_nd) (e_sy := e_sy) (e_na := e_na) (e_vi := e_vi) (e_le := e_le) (e_op0 := e_op0) (e_tk0 := e_tk0) (e_ec := e_ec) (i_LT := i_LT) (i_SV := i_SV) (i_PQ := i_PQ) (h_lv := h_lv) (p_0 := p_0) (p_1 := p_1) (p_2 := p_2) (p_3 := p_3) (p_4 := p_4) (p_5 := p_5) (p_6 := p_6) (p_7 := p_7) (p_8 := p_8) (p_9 := p_9) (p_10 := p_10) L G180 A231 (n) (at2_183) (tk2_187) (fk2_184) (nd2_186) (op2_185) (sy1) (na1) (ec2_188) gL_0 gL_1 gL_2 hW232 hF233 hP235 hS236 hV237 ((e193)) ((e197)) ((e194)) ((e196)) ((e195)) (((hF190.1 19 rfl).trans ((hF155.1 19 rfl).trans (ex_sy1)))) (((hF190.1 28 rfl).trans ((hF155.1 28 rfl).trans (ex_na1)))) (ec241) (((hF190.1 9 rfl).trans ((hF155.1 9 rfl).trans (fx_9)))) (((hF190.1 29 rfl).trans ((hF155.1 29 rfl).trans (fx_29)))) (by omega) (by omega) (by omega) (by omega) (by omega) (by omega) (by omega) (by omega) (by omega)
      · have _q : True := trivial
        refine jr_st (pc' := 126) (i := 20) (m := 7000) (z := n) (y := r182) rfl (by decide) rfl (by decide) (by omega) (by omega) rfl ?_
        have hW244 : Wk G180 (uA A181 20 (n).toNat (r182)) := Wk_a hW189 (show (-2147483648 : Int) ≤ r182 by omega) (show r182 ≤ (2147483647 : Int) by omega)
        have hF245 := Fr_a (z := r182) (k := 20) (n := (n).toNat) hF206 (by decide)
        obtain ⟨A243, eA243⟩ : ∃ q, q = uA A181 20 (n).toNat (r182) := ⟨_, rfl⟩
        rw [← eA243]
        rw [← eA243] at hW244 hF245
        have q246 : A243 20 (n).toNat = r182 := by rw [eA243]; exact uA_eq
        have hP247 : Pf nd A A243 := eA243 ▸ Pf_a hP209 (z := n) (by omega) (by omega)
        have hS248 : Fx sr (sy) A A243 := eA243 ▸ Fx_n hS210 rfl
        have hV249 : Fx [14] (vi) A A243 := eA243 ▸ Fx_n hV211 rfl
        have sf250 : ND A243 (n) (27) (sa1) (0) (exc) (r182) (0) (0) := ND_d eA243 sf212
        have sf251 : wE A243 Vs sb (20) (exc) (n + 1) (nd1) := wE_ag (by omega) (Sg_ne eA243 rfl) (Ag_st eA243 (by omega) (by omega)) sf213
        have sf252 : NdM A243 (nd) (nd1) (sy) := NdM_st eA243 (by decide) sf214
        have sf253 : wE A243 Vs sb (2 * 9 + 2) (r182) (nd1) (nd2_186) := wE_ag (by omega) (Sg_ne eA243 rfl) (Ag_st eA243 (by omega) (by omega)) a227
        have sf254 : NdM A243 (nd1) (nd2_186) (sy1) := NdM_st eA243 (by decide) a229
        have ec255 : ecn A243 (G180 31) = ec2_188 := (ecn_e ((congrFun eA243 15).trans (uA_ne (by decide)))).trans e198
        refine jx_ld (pc' := 127) (l' := L) (st' := [.ref 66]) rfl (jl_aloadn gL_0) ?_
        refine jx_vr (pc' := 130) (as := []) (st := []) rfl rfl rfl rfl ⟨rfl, rfl, Nat.le_of_ble_eq_true rfl⟩ rfl rfl (c_endLine (dd := d) (hd := by omega) (hW := hW244)  (ln := ln) (e_ln := show G180 9 = ln from ((hF190.1 9 rfl).trans ((hF155.1 9 rfl).trans (fx_9)))) (li := li) (e_li := show G180 3 = li from ((hF190.1 3 rfl).trans ((hF155.1 3 rfl).trans ((hFx.1 3 rfl).trans (e_li))))) (fk := fk2_184) (e_fk := show G180 16 = fk2_184 from (e194)) (tk0 := tk2_187) (e_tk0 := show G180 11 = tk2_187 from (e197))    (p_0 := by omega)) (fun o V' hq => ?_)
        obtain ⟨G256, A257, ln2_258, fk2_259, rfl, rfl, hW260, hF261, e262, e263, q264⟩ := hq
        have hF265 := Fr_tr hF245 hF261 (Fr_sub (by decide)) (Fr_sub (by decide))
        have hP266 := Pf_f hP247 hF261 (by decide)
        have hS267 := Fx_f hS248 hF261 (by decide)
        have hV268 := Fx_f hV249 hF261 (by decide)
        have sf269 : ND A257 (n) (27) (sa1) (0) (exc) (r182) (0) (0) := ND_ag (by omega) (Ag_fr hF261 (by decide)) sf250
        have sf270 : wE A257 Vs sb (20) (exc) (n + 1) (nd1) := wE_ag (by omega) (Sg_fr hF261 (by decide)) (Ag_fr hF261 (by decide)) sf251
        have sf271 : NdM A257 (nd) (nd1) (sy) := NdM_f hF261 (by decide) sf252
        have sf272 : wE A257 Vs sb (2 * 9 + 2) (r182) (nd1) (nd2_186) := wE_ag (by omega) (Sg_fr hF261 (by decide)) (Ag_fr hF261 (by decide)) sf253
        have sf273 : NdM A257 (nd1) (nd2_186) (sy1) := NdM_f hF261 (by decide) sf254
        have ec274 : ecn A257 (G256 31) = ec2_188 := (ecn_f (hF261.2 15 rfl) (hF261.1 31 rfl)).trans ec255
        have bln2_258 : (0 : Int) ≤ ln2_258 ∧ ln2_258 ≤ 3000 := e262 ▸ hW260.1 9
        have bfk2_259 : (0 : Int) ≤ fk2_259 ∧ fk2_259 ≤ 6 := e263 ▸ hW260.1 16
        refine .inl ⟨rfl, ?_⟩
        rcases q264 with ⟨a275, a276, a277, a278, a279⟩ | ⟨a280, a281⟩
        · have _q : True := trivial
          have b282 : (0 : Int) ≤ A 3 (ln2_258).toNat ∧ A 3 (ln2_258).toNat ≤ 3000 := hW.2 3 _
          have lt283 : ln2_258 < li → le < A 3 (ln2_258).toNat := fun hh => LT_nx (LT_ext (((hF261.1 3 rfl).trans ((hF190.1 3 rfl).trans ((hF155.1 3 rfl).trans (hFx.1 3 rfl))))) (((hF261.2 3 rfl).trans (((congrFun eA243 3).trans (uA_ne (by decide))).trans ((hF190.2 3 rfl).trans ((hF155.2 3 rfl).trans (hFx.2 3 rfl)))))) (((hF261.2 4 rfl).trans (((congrFun eA243 4).trans (uA_ne (by decide))).trans ((hF190.2 4 rfl).trans ((hF155.2 4 rfl).trans (hFx.2 4 rfl)))))) i_LT) (show G256 3 = li from ((hF261.1 3 rfl).trans ((hF190.1 3 rfl).trans ((hF155.1 3 rfl).trans ((hFx.1 3 rfl).trans (e_li)))))) (show A257 4 (ln).toNat = le from (congrFun ((hF261.2 4 rfl).trans (((congrFun eA243 4).trans (uA_ne (by decide))).trans ((hF190.2 4 rfl).trans ((hF155.2 4 rfl).trans (hFx.2 4 rfl))))) _).trans (e_le)) (show A257 3 (ln2_258).toNat = A 3 (ln2_258).toNat from (congrFun ((hF261.2 3 rfl).trans (((congrFun eA243 3).trans (uA_ne (by decide))).trans ((hF190.2 3 rfl).trans ((hF155.2 3 rfl).trans (hFx.2 3 rfl))))) _)) (show ln2_258 = ln + 1 by omega) (by omega) hh
          refine jx_ld (pc' := 131) (l' := L) (st' := [.ref 66]) rfl (jl_aloadn gL_0) ?_
          refine jx_ld (pc' := 132) (l' := L) (st' := [.int (i32 (n)), .ref 66]) rfl (jl_iloadn gL_2) ?_
          refine jx_ld (pc' := 133) (l' := L) (st' := [.int (i32 (lv)), .int (i32 (n)), .ref 66]) rfl (jl_iloadn gL_1) ?_
          refine jx_vr (pc' := 136) (as := [.int (i32 (n)), .int (i32 (lv))]) (st := []) rfl rfl rfl rfl ⟨rfl, rfl, Nat.le_of_ble_eq_true rfl⟩ rfl rfl (c_readIndexed_w (dd := d) (hP := hP) (zz := nd) (hd := by omega) (hW := hW260) (n := n) (lv := lv) (kk := 27) (bb := 0) (cc := exc) (de := r182) (xx := 0) (ln := ln2_258) (e_ln := show G256 9 = ln2_258 from (e262)) (li := li) (e_li := show G256 3 = li from ((hF261.1 3 rfl).trans ((hF190.1 3 rfl).trans ((hF155.1 3 rfl).trans ((hFx.1 3 rfl).trans (e_li)))))) (at0 := at2_183) (e_at0 := show G256 10 = at2_183 from ((hF261.1 10 rfl).trans (e193))) (fk := fk2_259) (e_fk := show G256 16 = fk2_259 from (e263)) (nd := nd2_186) (e_nd := show G256 31 = nd2_186 from ((hF261.1 31 rfl).trans (e196))) (sy := sy1) (e_sy := show G256 19 = sy1 from ((hF261.1 19 rfl).trans ((hF190.1 19 rfl).trans ((hF155.1 19 rfl).trans (ex_sy1))))) (na := na1) (e_na := show G256 28 = na1 from ((hF261.1 28 rfl).trans ((hF190.1 28 rfl).trans ((hF155.1 28 rfl).trans (ex_na1))))) (vi := vi) (e_vi := show G256 29 = vi from ((hF261.1 29 rfl).trans ((hF190.1 29 rfl).trans ((hF155.1 29 rfl).trans (fx_29))))) (lf := A 3 (ln2_258).toNat) (e_lf := show A257 3 (ln2_258).toNat = A 3 (ln2_258).toNat from (congrFun ((hF261.2 3 rfl).trans (((congrFun eA243 3).trans (uA_ne (by decide))).trans ((hF190.2 3 rfl).trans ((hF155.2 3 rfl).trans (hFx.2 3 rfl))))) _)) (sa := sa1) (e_sa := show A257 17 (n).toNat = sa1 from (congrFun ((hF261.2 17 rfl).trans ((congrFun eA243 17).trans (uA_ne (by decide)))) _).trans (k207)) (ksa := ka1) (e_ksa := show A257 7 (sa1).toNat = ka1 from (congrFun ((hF261.2 7 rfl).trans (((congrFun eA243 7).trans (uA_ne (by decide))).trans ((hF190.2 7 rfl).trans (hF155.2 7 rfl)))) _).trans (ex_ka1)) (ec := ec2_188) (e_ec := show ecn A257 (G256 31) = ec2_188 from ec274) (i_LT := (LT_ext (((hF261.1 3 rfl).trans ((hF190.1 3 rfl).trans ((hF155.1 3 rfl).trans (hFx.1 3 rfl))))) (((hF261.2 3 rfl).trans (((congrFun eA243 3).trans (uA_ne (by decide))).trans ((hF190.2 3 rfl).trans ((hF155.2 3 rfl).trans (hFx.2 3 rfl)))))) (((hF261.2 4 rfl).trans (((congrFun eA243 4).trans (uA_ne (by decide))).trans ((hF190.2 4 rfl).trans ((hF155.2 4 rfl).trans (hFx.2 4 rfl)))))) i_LT)) (i_SV := (SV_fx i_SV e_vi (show G256 29 = vi from ((hF261.1 29 rfl).trans ((hF190.1 29 rfl).trans ((hF155.1 29 rfl).trans (fx_29))))) (by omega) hV268)) (i_PQ := (PQ_fx i_PQ hS267 (by omega) (hF265.2 29 rfl) (hF265.2 30 rfl))) (hvb := hvb) (h_n := ⟨(Int.le_trans (by decide : (-2147483648 : Int) ≤ -2147483648) rx_n.1), (Int.le_trans rx_n.2 (by decide : (2147483647 : Int) ≤ 2147483647))⟩) (h_lv := ⟨(Int.le_trans (by decide : (-2147483648 : Int) ≤ -2147483648) h_lv.1), (Int.le_trans h_lv.2 (by decide : (2147483647 : Int) ≤ 2147483647))⟩)  (p_0 := by omega) (p_1 := by omega) (p_2 := by omega) (p_3 := by omega) (p_4 := by omega) (p_5 := by omega) (p_6 := by omega) (p_7 := by omega) (p_8 := by omega) (p_9 := by omega) (p_10 := by omega) (p_11 := by omega) (p_12 := by omega) (p_13 := by omega) (p_14 := by omega) (p_15 := by omega) (p_16 := sf269) (p_17 := (NdO_w (NdO_app (sy := sa1) (NdO_m (r := n) sf271) (NdO_m (r := n) sf273) (by omega) (by omega) (by omega)) (by omega) (by omega) (by omega)))) (fun o V' hq => ?_)
          obtain ⟨G284, A285, ln2_286, at2_287, fk2_288, nd2_289, sy2_290, na2_291, vi2_292, lf2_293, f2_294, ec2_295, rfl, rfl, hW296, hF297, hQ298, hQ299, hQ300, hQ301, e302, e303, e304, e305, e306, e307, e308, e309, e310, e311, p312, p313, p314, p315, p316, p317, p318, q319⟩ := hq
          have hF320 := Fr_tr hF265 hF297 (Fr_sub (by decide)) (Fr_sub (by decide))
          have hP321 := Pf_tr hP266 hQ298 (by omega)
          have hS322 := Fx_tr hS267 hQ300 (by omega)
          have hV323 := Fx_tr hV268 hQ301 (by omega)
          have k324 : A285 7 (sa1).toNat = ka1 := (hQ300 7 _ rfl (by omega)).trans (show A257 7 (sa1).toNat = ka1 from (congrFun ((hF261.2 7 rfl).trans (((congrFun eA243 7).trans (uA_ne (by decide))).trans ((hF190.2 7 rfl).trans (hF155.2 7 rfl)))) _).trans (ex_ka1))
          have sf325 : wE A285 Vs sb (20) (exc) (n + 1) (nd1) := wE_ag (by omega) (Fx_su hQ300 (by omega)) (Ag_px hQ299 (by omega) (by omega)) sf270
          have sf326 : NdM A285 (n + 1) (nd1) (sy) := NdM_px hQ299 (by omega) (by omega) (by omega) (NdM_w (lo := n + 1) (hi := nd1) (sy := sy) sf271 (by omega) (by omega) (by omega))
          have sf327 : wE A285 Vs sb (2 * 9 + 2) (r182) (nd1) (nd2_186) := wE_ag (by omega) (Fx_su hQ300 (by omega)) (Ag_px hQ299 (by omega) (by omega)) sf272
          have sf328 : NdM A285 (nd1) (nd2_186) (sy1) := NdM_px hQ299 (by omega) (by omega) (by omega) sf273
          have bln2_286 : (0 : Int) ≤ ln2_286 ∧ ln2_286 ≤ 3000 := e302 ▸ hW296.1 9
          have bat2_287 : (0 : Int) ≤ at2_287 ∧ at2_287 ≤ 3002 := e303 ▸ hW296.1 10
          have bfk2_288 : (0 : Int) ≤ fk2_288 ∧ fk2_288 ≤ 6 := e304 ▸ hW296.1 16
          have bnd2_289 : (0 : Int) ≤ nd2_289 ∧ nd2_289 ≤ 6999 := e305 ▸ hW296.1 31
          have bsy2_290 : (0 : Int) ≤ sy2_290 ∧ sy2_290 ≤ 202 := e306 ▸ hW296.1 19
          have bna2_291 : (0 : Int) ≤ na2_291 ∧ na2_291 ≤ 200 := e307 ▸ hW296.1 28
          have bvi2_292 : (0 : Int) ≤ vi2_292 ∧ vi2_292 ≤ 202 := e308 ▸ hW296.1 29
          have blf2_293 : (0 : Int) ≤ lf2_293 ∧ lf2_293 ≤ 3000 := e309 ▸ hW296.2 3 _
          have bf2_294 : (-2147483648 : Int) ≤ f2_294 ∧ f2_294 ≤ 2147483647 := e310 ▸ hW296.2 21 _
          refine .inr ⟨_, rfl, ?_⟩
          rcases q319 with ⟨a329, a330⟩ | ⟨a331, a332, a333, a334, a335, a336, a337, a338, a339⟩
          · have _q : True := trivial
            refine jx_rt (v := some (.int (i32 (n)))) rfl rfl rfl rfl rfl rfl ?_
            exact ⟨_, _, _, ln2_286, at2_287, fk2_288, nd2_289, sy2_290, na2_291, vi2_292, lf2_293, ec2_295, rfl, rfl, hW296, hF320, hP321, hS322, hV323, by omega, (e302), (e303), (e304), (e305), (e306), (e307), (e308), (e309), e311, by omega, by omega, by omega, by omega, by omega, by omega, by omega, by omega, by omega, by omega, by first | exact Or.inl (⟨by omega, by omega⟩)⟩
          · have _q : True := trivial
            refine jx_rt (v := some (.int (i32 (n)))) rfl rfl rfl rfl rfl rfl ?_
            exact ⟨_, _, _, ln2_286, at2_287, fk2_288, nd2_289, sy2_290, na2_291, vi2_292, lf2_293, ec2_295, rfl, rfl, hW296, hF320, hP321, hS322, hV323, by omega, (e302), (e303), (e304), (e305), (e306), (e307), (e308), (e309), e311, by omega, by omega, by omega, by omega, by omega, by omega, by omega, by omega, by omega, by omega, by first | exact Or.inr ((⟨by omega, by omega, by omega, by omega, by omega, by omega, by omega, (wS_for (u := nd1) (v := nd2_186) (ND_ae a335 (by omega : sa1 = sy)) (by omega) (by rw [← (by omega : sa1 = sy)]; exact (show A285 7 (sa1).toNat = ka1 from (k324)).trans (by omega)) (by omega) (by omega) (by omega) (wE_sb (by omega) (wE_mono (by omega) (by omega) (by omega) sf325)) (wE_sb (by omega) (wE_mono (by omega) (by omega) (by omega) sf327)) (wP_vu (by omega : sa1 = sy) (wP_eq a336 (by omega) rfl (by omega) (by omega) (by omega) (by omega) (by omega) (by omega)))), (NX_nd a335), by omega, (NdM_w (NdM_app (sy := sy) (NdM_k a338 a335.1 (by omega) (by omega)) (NdM_app (sy := sy) sf326 (NdM_app (sy := sy) sf328 a339 (by omega) (by omega) (by omega)) (by omega) (by omega) (by omega)) (by omega) (by omega) (by omega)) (by omega) (by omega) (by omega))⟩))⟩
        · have _q : True := trivial
          refine jx_ld (pc' := 131) (l' := L) (st' := [.ref 66]) rfl (jl_aloadn gL_0) ?_
          refine jx_ld (pc' := 132) (l' := L) (st' := [.int (i32 (n)), .ref 66]) rfl (jl_iloadn gL_2) ?_
          refine jx_ld (pc' := 133) (l' := L) (st' := [.int (i32 (lv)), .int (i32 (n)), .ref 66]) rfl (jl_iloadn gL_1) ?_
          refine jx_vr (pc' := 136) (as := [.int (i32 (n)), .int (i32 (lv))]) (st := []) rfl rfl rfl rfl ⟨rfl, rfl, Nat.le_of_ble_eq_true rfl⟩ rfl rfl (c_readIndexed_f (dd := d) (hd := by omega) (hW := hW260) (n := n) (lv := lv) (fk := fk2_259) (e_fk := show G256 16 = fk2_259 from (e263))  (h_n := ⟨(Int.le_trans (by decide : (-2147483648 : Int) ≤ -2147483648) rx_n.1), (Int.le_trans rx_n.2 (by decide : (2147483647 : Int) ≤ 2147483647))⟩) (h_lv := ⟨(Int.le_trans (by decide : (-2147483648 : Int) ≤ -2147483648) h_lv.1), (Int.le_trans h_lv.2 (by decide : (2147483647 : Int) ≤ 2147483647))⟩)  (p_0 := by omega)) (fun o V' hq => ?_)
          obtain ⟨r340, rfl, rfl, b341, p342, -⟩ := hq
          refine .inr ⟨_, rfl, ?_⟩
          refine jx_rt (v := some (.int (i32 (r340)))) rfl rfl rfl rfl rfl rfl ?_
          exact ⟨_, _, _, ln2_258, at2_183, fk2_259, nd2_186, sy1, na1, vi, A 3 (ln2_258).toNat, ec2_188, rfl, rfl, hW260, hF265, hP266, hS267, hV268, by omega, (e262), ((hF261.1 10 rfl).trans (e193)), (e263), ((hF261.1 31 rfl).trans (e196)), ((hF261.1 19 rfl).trans ((hF190.1 19 rfl).trans ((hF155.1 19 rfl).trans (ex_sy1)))), ((hF261.1 28 rfl).trans ((hF190.1 28 rfl).trans ((hF155.1 28 rfl).trans (ex_na1)))), ((hF261.1 29 rfl).trans ((hF190.1 29 rfl).trans ((hF155.1 29 rfl).trans (fx_29)))), (congrFun ((hF261.2 3 rfl).trans (((congrFun eA243 3).trans (uA_ne (by decide))).trans ((hF190.2 3 rfl).trans ((hF155.2 3 rfl).trans (hFx.2 3 rfl))))) _), ec274, by omega, by omega, by omega, by omega, by omega, by omega, by omega, by omega, by omega, by omega, by first | exact Or.inl (⟨by omega, by omega⟩)⟩
  · have _q : True := trivial
    refine jx_vr (pc' := 116) (as := [.int (i32 (0))]) (st := []) rfl rfl rfl rfl ⟨rfl, rfl, Nat.le_of_ble_eq_true rfl⟩ rfl rfl (c_need (dd := d) (hd := by omega) (hW := hWx) (g := 0) (ln := ln) (e_ln := show Gx 9 = ln from (fx_9)) (le := le) (e_le := show Ax 4 (ln).toNat = le from (congrFun (hFx.2 4 rfl) _).trans (e_le)) (at0 := at1) (e_at0 := show Gx 10 = at1 from (ex_at1)) (fk := fk1) (e_fk := show Gx 16 = fk1 from (ex_fk1)) (tk0 := tk1) (e_tk0 := show Gx 11 = tk1 from (ex_tk1))  (h_g := ⟨(by decide), (by decide)⟩)  (p_0 := by omega)) (fun o V' hq => ?_)
    obtain ⟨G344, A345, at2_346, tk2_347, fk2_348, rfl, rfl, hW349, hF350, e351, e352, e353, p354, p355, q356⟩ := hq
    have hF357 := Fr_tr hFx hF350 (Fr_sub (by decide)) (Fr_sub (by decide))
    have hP358 := Pf_f hPx hF350 (by decide)
    have hS359 := Fx_f hSx hF350 (by decide)
    have hV360 := Fx_f hVx hF350 (by decide)
    have sf361 : ND A345 (n) (27) (sa1) (0) (exc) (0) (0) (0) := ND_ag (by omega) (Ag_fr hF350 (by decide)) iv_11
    have sf362 : wE A345 Vs sb (20) (exc) (n + 1) (nd1) := wE_ag (by omega) (Sg_fr hF350 (by decide)) (Ag_fr hF350 (by decide)) iv_12
    have sf363 : NdM A345 (nd) (nd1) (sy) := NdM_f hF350 (by decide) iv_14
    have ec364 : ecn A345 (G344 31) = ec1 := (ecn_f (hF350.2 15 rfl) (hF350.1 31 rfl)).trans ex_ec1
    have bat2_346 : (0 : Int) ≤ at2_346 ∧ at2_346 ≤ 3002 := e351 ▸ hW349.1 10
    have ztk2_347 := tz_b tk2_347
    have btk2_347 : (0 : Int) ≤ tk2_347 ∧ tk2_347 ≤ 5 := e352 ▸ hW349.1 11
    have bfk2_348 : (0 : Int) ≤ fk2_348 ∧ fk2_348 ≤ 6 := e353 ▸ hW349.1 16
    refine .inl ⟨rfl, ?_⟩
    rcases q356 with ⟨a365, a366, a367, a368⟩ | ⟨a369, a370, a371, a372⟩
    · have _q : True := trivial
      have z373 := tz_f (tk2_347)
      exact c_readSeq_w_at_116p (X := X) (k := k) (hP := hP) (d := d) (Vs := Vs) (sb := sb) (pb := pb) (hvb := hvb) (c0 := c0) (c1 := c1) (G := G) (A := A) (T := T) (lv := lv) (ln := ln) (li := li) (at0 := at0) (fk := fk) (nd := nd) (sy := sy) (na := na) (vi := vi) (le := le) (op0 := op0) (tk0 := tk0) (ec := ec) (hd := hd) (hW := hW) (e_ln := e_ln) (e_li := e_li) (e_at0 := e_at0) (e_fk := e_fk) (e_nd := e_nd) (e_sy := e_sy) (e_na := e_na) (e_vi := e_vi) (e_le := e_le) (e_op0 := e_op0) (e_tk0 := e_tk0) (e_ec := e_ec) (i_LT := i_LT) (i_SV := i_SV) (i_PQ := i_PQ) (h_lv := h_lv) (p_0 := p_0) (p_1 := p_1) (p_2 := p_2) (p_3 := p_3) (p_4 := p_4) (p_5 := p_5) (p_6 := p_6) (p_7 := p_7) (p_8 := p_8) (p_9 := p_9) (p_10 := p_10) L G344 A345 (n) (at2_346) (tk2_347) (fk2_348) (nd1) (op1) (sy1) (na1) (ec1) gL_0 gL_1 gL_2 hW349 hF357 hP358 hS359 hV360 ((e351)) ((e352)) ((e353)) (((hF350.1 31 rfl).trans (ex_nd1))) (((hF350.1 15 rfl).trans (ex_op1))) (((hF350.1 19 rfl).trans (ex_sy1))) (((hF350.1 28 rfl).trans (ex_na1))) (ec364) (((hF350.1 9 rfl).trans (fx_9))) (((hF350.1 29 rfl).trans (fx_29))) (by omega) (by omega) (by omega) (by omega) (by omega) (by omega) (by omega) (by omega) (by omega)
    · have _q : True := trivial
      exfalso
      omega
set_option maxRecDepth 20000 in
set_option maxHeartbeats 4000000 in
theorem c_readSeq_w_at_96p {X : jX} {k : Nat} (hP : RPw X k) {d : Nat} {Vs : Nat → Prop} {sb pb : Int} (hvb : VB Vs sb) {c0 c1 : jC} {G : Nat → Int} {A : Nat → Nat → Int} {T : jH} {lv : Int} {ln li at0 fk nd sy na vi le op0 tk0 ec : Int} (hd : 8 * k + 82 ≤ d + 1) (hW : Wk G A) (e_ln : G 9 = ln) (e_li : G 3 = li) (e_at0 : G 10 = at0) (e_fk : G 16 = fk) (e_nd : G 31 = nd) (e_sy : G 19 = sy) (e_na : G 28 = na) (e_vi : G 29 = vi) (e_le : A 4 (ln).toNat = le) (e_op0 : G 15 = op0) (e_tk0 : G 11 = tk0) (e_ec : ecn A (G 31) = ec) (i_LT : LT G A) (i_SV : SV Vs sb G A) (i_PQ : PQ Vs sb pb G A) (h_lv : (-2147483648 : Int) ≤ lv ∧ lv ≤ 2147483647) (p_0 : 0 ≤ lv ∧ lv ≤ 15) (p_1 : 18 - lv ≤ ((k + 1 : Nat) : Int)) (p_2 : fk = 0) (p_3 : ln < li) (p_4 : at0 ≤ le) (p_5 : op0 = 0) (p_6 : nd ≤ 2 * at0 - tz tk0 + 30) (p_7 : sy ≤ na + 2) (p_8 : vi ≤ sy) (p_9 : sb = sy) (p_10 : 1 ≤ tk0) : ∀ (L : jL) (Gx : Nat → Int) (Ax : Nat → Nat → Int) (n at1 tk1 fk1 nd1 op1 sy1 na1 ec1 : Int), jGet L 0 = some (.ref 66) → jGet L 1 = some (.int (i32 (lv))) → jGet L 2 = some (.int (i32 n)) → Wk Gx Ax → Fr [9, 10, 11, 12, 13, 14, 15, 16, 17, 18, 19, 28, 29, 31] [6, 7, 8, 9, 10, 11, 12, 14, 15, 16, 17, 18, 19, 20, 21, 22, 23, 24, 28] G A Gx Ax → Pf nd A Ax → Fx sr (sy) A Ax → Fx [14] (vi) A Ax → Gx 10 = at1 → Gx 11 = tk1 → Gx 16 = fk1 → Gx 31 = nd1 → Gx 15 = op1 → Gx 19 = sy1 → Gx 28 = na1 → ecn Ax (Gx 31) = ec1 → Gx 9 = ln → Gx 29 = vi → ((-2147483648 : Int) ≤ n ∧ n ≤ 2147483647) → (1 ≤ fk1) → (at0 ≤ at1) → (at1 ≤ le) → (nd ≤ n ∧ n ≤ 6998 ∧ n < nd1) → (sy ≤ sy1) → (sy1 ≤ na1 + 2) → (0 ≤ op1 ∧ op1 ≤ 9) → (nd1 - nd ≤ 2 * at1 - 2 * at0 + 8) → wj X d jm297 (96, L, [], rV c0 c1 Gx Ax T) (fun o V' => ∃ (G' : Nat → Int) (A' : Nat → Nat → Int) (r : Int) (ln2 : Int) (at2 : Int) (fk2 : Int) (nd2 : Int) (sy2 : Int) (na2 : Int) (vi2 : Int) (lf2 : Int) (ec2 : Int), V' = rV c0 c1 G' A' T ∧ o = .inl (some (.int (i32 r))) ∧ Wk G' A' ∧ Fr [9, 10, 11, 12, 13, 14, 15, 16, 17, 18, 19, 28, 29, 31] [6, 7, 8, 9, 10, 11, 12, 14, 15, 16, 17, 18, 19, 20, 21, 22, 23, 24, 28] G A G' A' ∧ Pf nd A A' ∧ Fx sr (sy) A A' ∧ Fx [14] (vi) A A' ∧ ((-2147483648 : Int) ≤ r ∧ r ≤ 2147483647) ∧ G' 9 = ln2 ∧ G' 10 = at2 ∧ G' 16 = fk2 ∧ G' 31 = nd2 ∧ G' 19 = sy2 ∧ G' 28 = na2 ∧ G' 29 = vi2 ∧ A' 3 (ln2).toNat = lf2 ∧ ecn A' (G' 31) = ec2 ∧ (at0 ≤ at2) ∧ (nd ≤ nd2) ∧ (sy ≤ sy2) ∧ (sy2 ≤ na2 + 2) ∧ (vi ≤ vi2) ∧ (vi2 ≤ vi + 1) ∧ (0 ≤ r) ∧ (r ≤ 6999) ∧ (ln ≤ ln2) ∧ (ln2 ≤ li) ∧ (((1 ≤ fk2) ∧ (nd2 - nd ≤ 2 * at2 - (2 * at0 - tz tk0) + 14)) ∨ ((fk2 = 0) ∧ (vi2 = vi) ∧ (ln < ln2) ∧ (nd2 - nd ≤ 2 * at2 - (2 * at0 - tz tk0)) ∧ (at2 < lf2 ∨ li ≤ ln2) ∧ (nd ≤ r) ∧ (r < nd2) ∧ (wSt A' (sy2) pb (wP A' (sy2) pb (k)) (Vs) (r) (nd) (nd2) (sy) (sy2)) ∧ (NX A' (r)) ∧ (nd2 - nd + 5 * (ec2 - ec) ≤ 2 * at2 - (2 * at0 - tz tk0)) ∧ (NdM A' (nd) (nd2) (sy))))) := by
  have hF0 : Fr [9, 10, 11, 12, 13, 14, 15, 16, 17, 18, 19, 28, 29, 31] [6, 7, 8, 9, 10, 11, 12, 14, 15, 16, 17, 18, 19, 20, 21, 22, 23, 24, 28] G A G A := Fr_rf
  have hP0 : Pf nd A A := Pf_rf
  have hS0 : Fx sr (sy) A A := Fx_rf
  have hV0 : Fx [14] (vi) A A := Fx_rf
  have b_ln : (0 : Int) ≤ ln ∧ ln ≤ 3000 := e_ln ▸ hW.1 9
  have b_li : (0 : Int) ≤ li ∧ li ≤ 3000 := e_li ▸ hW.1 3
  have b_at0 : (0 : Int) ≤ at0 ∧ at0 ≤ 3002 := e_at0 ▸ hW.1 10
  have b_fk : (0 : Int) ≤ fk ∧ fk ≤ 6 := e_fk ▸ hW.1 16
  have b_nd : (0 : Int) ≤ nd ∧ nd ≤ 6999 := e_nd ▸ hW.1 31
  have b_sy : (0 : Int) ≤ sy ∧ sy ≤ 202 := e_sy ▸ hW.1 19
  have b_na : (0 : Int) ≤ na ∧ na ≤ 200 := e_na ▸ hW.1 28
  have b_vi : (0 : Int) ≤ vi ∧ vi ≤ 202 := e_vi ▸ hW.1 29
  have b_le : (0 : Int) ≤ le ∧ le ≤ 3000 := e_le ▸ hW.2 4 _
  have b_op0 : (-2147483648 : Int) ≤ op0 ∧ op0 ≤ 2147483647 := e_op0 ▸ hW.1 15
  have z_tk0 := tz_f tk0
  have b_tk0 : (0 : Int) ≤ tk0 ∧ tk0 ≤ 5 := e_tk0 ▸ hW.1 11
  intro L Gx Ax n at1 tk1 fk1 nd1 op1 sy1 na1 ec1 gL_0 gL_1 gL_2 hWx hFx hPx hSx hVx ex_at1 ex_tk1 ex_fk1 ex_nd1 ex_op1 ex_sy1 ex_na1 ex_ec1 fx_9 fx_29 rx_n iv_0 iv_1 iv_2 iv_3 iv_4 iv_5 iv_6 iv_7
  have b_at1 : (0 : Int) ≤ at1 ∧ at1 ≤ 3002 := ex_at1 ▸ hWx.1 10
  have z_tk1 := tz_f tk1
  have b_tk1 : (0 : Int) ≤ tk1 ∧ tk1 ≤ 5 := ex_tk1 ▸ hWx.1 11
  have b_fk1 : (0 : Int) ≤ fk1 ∧ fk1 ≤ 6 := ex_fk1 ▸ hWx.1 16
  have b_nd1 : (0 : Int) ≤ nd1 ∧ nd1 ≤ 6999 := ex_nd1 ▸ hWx.1 31
  have b_op1 : (-2147483648 : Int) ≤ op1 ∧ op1 ≤ 2147483647 := ex_op1 ▸ hWx.1 15
  have b_sy1 : (0 : Int) ≤ sy1 ∧ sy1 ≤ 202 := ex_sy1 ▸ hWx.1 19
  have b_na1 : (0 : Int) ≤ na1 ∧ na1 ≤ 200 := ex_na1 ▸ hWx.1 28
  refine jx_ld (pc' := 97) (l' := L) (st' := [.ref 66]) rfl (jl_aloadn gL_0) ?_
  refine jr_get (pc' := 100) (i := 36) (v := .ref 86) rfl rfl (by decide) rfl rfl ?_
  refine jx_ld (pc' := 101) (l' := L) (st' := [.int (i32 (n)), .ref 86]) rfl (jl_iloadn gL_2) ?_
  refine jx_ld (pc' := 102) (l' := L) (st' := [.ref 66, .int (i32 (n)), .ref 86]) rfl (jl_aloadn gL_0) ?_
  refine jx_vr (pc' := 105) (as := []) (st := [.int (i32 (n)), .ref 86]) rfl rfl rfl rfl ⟨rfl, rfl, Nat.le_of_ble_eq_true rfl⟩ rfl rfl (REw_all X 9 (dd := d) (hd := by omega) (hW := hWx)  (ln := ln) (e_ln := show Gx 9 = ln from (fx_9)) (le := le) (e_le := show Ax 4 (ln).toNat = le from (congrFun (hFx.2 4 rfl) _).trans (e_le)) (at0 := at1) (e_at0 := show Gx 10 = at1 from (ex_at1)) (fk := fk1) (e_fk := show Gx 16 = fk1 from (ex_fk1)) (op0 := op1) (e_op0 := show Gx 15 = op1 from (ex_op1)) (nd := nd1) (e_nd := show Gx 31 = nd1 from (ex_nd1)) (tk0 := tk1) (e_tk0 := show Gx 11 = tk1 from (ex_tk1)) (ec := ec1) (e_ec := show ecn Ax (Gx 31) = ec1 from ex_ec1) (sy := sy1) (e_sy := show Gx 19 = sy1 from (ex_sy1)) (i_SV := (SV_fx i_SV e_vi (show Gx 29 = vi from (fx_29)) (by omega) hVx))   (p_0 := by omega) (p_1 := by omega) (p_2 := by omega) (p_3 := by omega) (p_4 := by omega) (p_5 := by omega)) (fun o V' hq => ?_)
  obtain ⟨G374, A375, r376, at2_377, fk2_378, op2_379, nd2_380, tk2_381, ec2_382, rfl, rfl, hW383, hF384, hQ385, b386, e387, e388, e389, e390, e391, e392, p393, p394, p395, p396, p397, p398, q399⟩ := hq
  have hF400 := Fr_tr hFx hF384 (Fr_sub (by decide)) (Fr_sub (by decide))
  have hP401 := Pf_tr hPx hQ385 (by omega)
  have hS402 := Fx_f hSx hF384 (by decide)
  have hV403 := Fx_f hVx hF384 (by decide)
  have bat2_377 : (0 : Int) ≤ at2_377 ∧ at2_377 ≤ 3002 := e387 ▸ hW383.1 10
  have bfk2_378 : (0 : Int) ≤ fk2_378 ∧ fk2_378 ≤ 6 := e388 ▸ hW383.1 16
  have bop2_379 : (-2147483648 : Int) ≤ op2_379 ∧ op2_379 ≤ 2147483647 := e389 ▸ hW383.1 15
  have bnd2_380 : (0 : Int) ≤ nd2_380 ∧ nd2_380 ≤ 6999 := e390 ▸ hW383.1 31
  have ztk2_381 := tz_b tk2_381
  have btk2_381 : (0 : Int) ≤ tk2_381 ∧ tk2_381 ≤ 5 := e391 ▸ hW383.1 11
  refine .inr ⟨_, rfl, ?_⟩
  rcases q399 with ⟨a404, a405, a406, a407, a408, a409⟩ | ⟨a410, a411, a412⟩ | ⟨a413, a414, a415, a416, a417, a418, a419⟩
  · have _q : True := trivial
    refine jr_st (pc' := 106) (i := 19) (m := 7000) (z := n) (y := r376) rfl (by decide) rfl (by decide) (by omega) (by omega) rfl ?_
    have hW421 : Wk G374 (uA A375 19 (n).toNat (r376)) := Wk_a hW383 (show (-2147483648 : Int) ≤ r376 by omega) (show r376 ≤ (2147483647 : Int) by omega)
    have hF422 := Fr_a (z := r376) (k := 19) (n := (n).toNat) hF400 (by decide)
    obtain ⟨A420, eA420⟩ : ∃ q, q = uA A375 19 (n).toNat (r376) := ⟨_, rfl⟩
    rw [← eA420]
    rw [← eA420] at hW421 hF422
    have q423 : A420 19 (n).toNat = r376 := by rw [eA420]; exact uA_eq
    have hP424 : Pf nd A A420 := eA420 ▸ Pf_a hP401 (z := n) (by omega) (by omega)
    have hS425 : Fx sr (sy) A A420 := eA420 ▸ Fx_n hS402 rfl
    have hV426 : Fx [14] (vi) A A420 := eA420 ▸ Fx_n hV403 rfl
    have ec427 : ecn A420 (G374 31) = ec2_382 := (ecn_e ((congrFun eA420 15).trans (uA_ne (by decide)))).trans e392
    have z428 := tz_f (tk2_381)
    exact c_readSeq_w_at_106p (X := X) (k := k) (hP := hP) (d := d) (Vs := Vs) (sb := sb) (pb := pb) (hvb := hvb) (c0 := c0) (c1 := c1) (G := G) (A := A) (T := T) (lv := lv) (ln := ln) (li := li) (at0 := at0) (fk := fk) (nd := nd) (sy := sy) (na := na) (vi := vi) (le := le) (op0 := op0) (tk0 := tk0) (ec := ec) (hd := hd) (hW := hW) (e_ln := e_ln) (e_li := e_li) (e_at0 := e_at0) (e_fk := e_fk) (e_nd := e_nd) (e_sy := e_sy) (e_na := e_na) (e_vi := e_vi) (e_le := e_le) (e_op0 := e_op0) (e_tk0 := e_tk0) (e_ec := e_ec) (i_LT := i_LT) (i_SV := i_SV) (i_PQ := i_PQ) (h_lv := h_lv) (p_0 := p_0) (p_1 := p_1) (p_2 := p_2) (p_3 := p_3) (p_4 := p_4) (p_5 := p_5) (p_6 := p_6) (p_7 := p_7) (p_8 := p_8) (p_9 := p_9) (p_10 := p_10) L G374 A420 (n) (at2_377) (tk2_381) (fk2_378) (nd2_380) (op2_379) (sy1) (na1) (ec2_382) gL_0 gL_1 gL_2 hW421 hF422 hP424 hS425 hV426 ((e387)) ((e391)) ((e388)) ((e390)) ((e389)) (((hF384.1 19 rfl).trans (ex_sy1))) (((hF384.1 28 rfl).trans (ex_na1))) (ec427) (((hF384.1 9 rfl).trans (fx_9))) (((hF384.1 29 rfl).trans (fx_29))) (by omega) (by omega) (by omega) (by omega) (by omega) (by omega) (by omega) (by omega) (by omega)
  · have _q : True := trivial
    exfalso
    omega
  · have _q : True := trivial
    exfalso
    omega
set_option maxRecDepth 20000 in
set_option maxHeartbeats 4000000 in
theorem c_readSeq_w_at_96 {X : jX} {k : Nat} (hP : RPw X k) {d : Nat} {Vs : Nat → Prop} {sb pb : Int} (hvb : VB Vs sb) {c0 c1 : jC} {G : Nat → Int} {A : Nat → Nat → Int} {T : jH} {lv : Int} {ln li at0 fk nd sy na vi le op0 tk0 ec : Int} (hd : 8 * k + 82 ≤ d + 1) (hW : Wk G A) (e_ln : G 9 = ln) (e_li : G 3 = li) (e_at0 : G 10 = at0) (e_fk : G 16 = fk) (e_nd : G 31 = nd) (e_sy : G 19 = sy) (e_na : G 28 = na) (e_vi : G 29 = vi) (e_le : A 4 (ln).toNat = le) (e_op0 : G 15 = op0) (e_tk0 : G 11 = tk0) (e_ec : ecn A (G 31) = ec) (i_LT : LT G A) (i_SV : SV Vs sb G A) (i_PQ : PQ Vs sb pb G A) (h_lv : (-2147483648 : Int) ≤ lv ∧ lv ≤ 2147483647) (p_0 : 0 ≤ lv ∧ lv ≤ 15) (p_1 : 18 - lv ≤ ((k + 1 : Nat) : Int)) (p_2 : fk = 0) (p_3 : ln < li) (p_4 : at0 ≤ le) (p_5 : op0 = 0) (p_6 : nd ≤ 2 * at0 - tz tk0 + 30) (p_7 : sy ≤ na + 2) (p_8 : vi ≤ sy) (p_9 : sb = sy) (p_10 : 1 ≤ tk0) : ∀ (L : jL) (Gx : Nat → Int) (Ax : Nat → Nat → Int) (n at1 tk1 fk1 nd1 op1 sy1 na1 sa1 ka1 ec1 : Int), jGet L 0 = some (.ref 66) → jGet L 1 = some (.int (i32 (lv))) → jGet L 2 = some (.int (i32 n)) → Wk Gx Ax → Fr [9, 10, 11, 12, 13, 14, 15, 16, 17, 18, 19, 28, 29, 31] [6, 7, 8, 9, 10, 11, 12, 14, 15, 16, 17, 18, 19, 20, 21, 22, 23, 24, 28] G A Gx Ax → Pf nd A Ax → Fx sr (sy) A Ax → Fx [14] (vi) A Ax → Gx 10 = at1 → Gx 11 = tk1 → Gx 16 = fk1 → Gx 31 = nd1 → Gx 15 = op1 → Gx 19 = sy1 → Gx 28 = na1 → Ax 17 (n).toNat = sa1 → Ax 7 (sa1).toNat = ka1 → ecn Ax (Gx 31) = ec1 → Gx 9 = ln → Gx 29 = vi → ((-2147483648 : Int) ≤ n ∧ n ≤ 2147483647) → (fk1 = 0) → (at0 ≤ at1) → (at1 ≤ le) → (n = nd) → (n ≤ 6998 ∧ n < nd1) → (sy1 = sy + 1) → (sa1 = sy) → (sy1 ≤ na1 + 2) → (op1 = 0) → (nd1 - nd ≤ (2 * at1 - tz tk1) - (2 * at0 - tz tk0)) → (ka1 = 9) → (nd1 = n + 1) → (ND Ax (n) (27) (sa1) (0) (0) (0) (0) (0)) → (nd1 - nd + 5 * (ec1 - ec) ≤ (2 * at1 - tz tk1) - (2 * at0 - tz tk0)) → (NdM Ax (nd) (nd1) (sy)) → wj X d jm297 (96, L, [], rV c0 c1 Gx Ax T) (fun o V' => ∃ (G' : Nat → Int) (A' : Nat → Nat → Int) (r : Int) (ln2 : Int) (at2 : Int) (fk2 : Int) (nd2 : Int) (sy2 : Int) (na2 : Int) (vi2 : Int) (lf2 : Int) (ec2 : Int), V' = rV c0 c1 G' A' T ∧ o = .inl (some (.int (i32 r))) ∧ Wk G' A' ∧ Fr [9, 10, 11, 12, 13, 14, 15, 16, 17, 18, 19, 28, 29, 31] [6, 7, 8, 9, 10, 11, 12, 14, 15, 16, 17, 18, 19, 20, 21, 22, 23, 24, 28] G A G' A' ∧ Pf nd A A' ∧ Fx sr (sy) A A' ∧ Fx [14] (vi) A A' ∧ ((-2147483648 : Int) ≤ r ∧ r ≤ 2147483647) ∧ G' 9 = ln2 ∧ G' 10 = at2 ∧ G' 16 = fk2 ∧ G' 31 = nd2 ∧ G' 19 = sy2 ∧ G' 28 = na2 ∧ G' 29 = vi2 ∧ A' 3 (ln2).toNat = lf2 ∧ ecn A' (G' 31) = ec2 ∧ (at0 ≤ at2) ∧ (nd ≤ nd2) ∧ (sy ≤ sy2) ∧ (sy2 ≤ na2 + 2) ∧ (vi ≤ vi2) ∧ (vi2 ≤ vi + 1) ∧ (0 ≤ r) ∧ (r ≤ 6999) ∧ (ln ≤ ln2) ∧ (ln2 ≤ li) ∧ (((1 ≤ fk2) ∧ (nd2 - nd ≤ 2 * at2 - (2 * at0 - tz tk0) + 14)) ∨ ((fk2 = 0) ∧ (vi2 = vi) ∧ (ln < ln2) ∧ (nd2 - nd ≤ 2 * at2 - (2 * at0 - tz tk0)) ∧ (at2 < lf2 ∨ li ≤ ln2) ∧ (nd ≤ r) ∧ (r < nd2) ∧ (wSt A' (sy2) pb (wP A' (sy2) pb (k)) (Vs) (r) (nd) (nd2) (sy) (sy2)) ∧ (NX A' (r)) ∧ (nd2 - nd + 5 * (ec2 - ec) ≤ 2 * at2 - (2 * at0 - tz tk0)) ∧ (NdM A' (nd) (nd2) (sy))))) := by
  have hF0 : Fr [9, 10, 11, 12, 13, 14, 15, 16, 17, 18, 19, 28, 29, 31] [6, 7, 8, 9, 10, 11, 12, 14, 15, 16, 17, 18, 19, 20, 21, 22, 23, 24, 28] G A G A := Fr_rf
  have hP0 : Pf nd A A := Pf_rf
  have hS0 : Fx sr (sy) A A := Fx_rf
  have hV0 : Fx [14] (vi) A A := Fx_rf
  have b_ln : (0 : Int) ≤ ln ∧ ln ≤ 3000 := e_ln ▸ hW.1 9
  have b_li : (0 : Int) ≤ li ∧ li ≤ 3000 := e_li ▸ hW.1 3
  have b_at0 : (0 : Int) ≤ at0 ∧ at0 ≤ 3002 := e_at0 ▸ hW.1 10
  have b_fk : (0 : Int) ≤ fk ∧ fk ≤ 6 := e_fk ▸ hW.1 16
  have b_nd : (0 : Int) ≤ nd ∧ nd ≤ 6999 := e_nd ▸ hW.1 31
  have b_sy : (0 : Int) ≤ sy ∧ sy ≤ 202 := e_sy ▸ hW.1 19
  have b_na : (0 : Int) ≤ na ∧ na ≤ 200 := e_na ▸ hW.1 28
  have b_vi : (0 : Int) ≤ vi ∧ vi ≤ 202 := e_vi ▸ hW.1 29
  have b_le : (0 : Int) ≤ le ∧ le ≤ 3000 := e_le ▸ hW.2 4 _
  have b_op0 : (-2147483648 : Int) ≤ op0 ∧ op0 ≤ 2147483647 := e_op0 ▸ hW.1 15
  have z_tk0 := tz_f tk0
  have b_tk0 : (0 : Int) ≤ tk0 ∧ tk0 ≤ 5 := e_tk0 ▸ hW.1 11
  intro L Gx Ax n at1 tk1 fk1 nd1 op1 sy1 na1 sa1 ka1 ec1 gL_0 gL_1 gL_2 hWx hFx hPx hSx hVx ex_at1 ex_tk1 ex_fk1 ex_nd1 ex_op1 ex_sy1 ex_na1 ex_sa1 ex_ka1 ex_ec1 fx_9 fx_29 rx_n iv_0 iv_1 iv_2 iv_3 iv_4 iv_5 iv_6 iv_7 iv_8 iv_9 iv_10 iv_11 iv_12 iv_13 iv_14
  have b_at1 : (0 : Int) ≤ at1 ∧ at1 ≤ 3002 := ex_at1 ▸ hWx.1 10
  have z_tk1 := tz_f tk1
  have b_tk1 : (0 : Int) ≤ tk1 ∧ tk1 ≤ 5 := ex_tk1 ▸ hWx.1 11
  have b_fk1 : (0 : Int) ≤ fk1 ∧ fk1 ≤ 6 := ex_fk1 ▸ hWx.1 16
  have b_nd1 : (0 : Int) ≤ nd1 ∧ nd1 ≤ 6999 := ex_nd1 ▸ hWx.1 31
  have b_op1 : (-2147483648 : Int) ≤ op1 ∧ op1 ≤ 2147483647 := ex_op1 ▸ hWx.1 15
  have b_sy1 : (0 : Int) ≤ sy1 ∧ sy1 ≤ 202 := ex_sy1 ▸ hWx.1 19
  have b_na1 : (0 : Int) ≤ na1 ∧ na1 ≤ 200 := ex_na1 ▸ hWx.1 28
  refine jx_ld (pc' := 97) (l' := L) (st' := [.ref 66]) rfl (jl_aloadn gL_0) ?_
  refine jr_get (pc' := 100) (i := 36) (v := .ref 86) rfl rfl (by decide) rfl rfl ?_
  refine jx_ld (pc' := 101) (l' := L) (st' := [.int (i32 (n)), .ref 86]) rfl (jl_iloadn gL_2) ?_
  refine jx_ld (pc' := 102) (l' := L) (st' := [.ref 66, .int (i32 (n)), .ref 86]) rfl (jl_aloadn gL_0) ?_
  refine jx_vr (pc' := 105) (as := []) (st := [.int (i32 (n)), .ref 86]) rfl rfl rfl rfl ⟨rfl, rfl, Nat.le_of_ble_eq_true rfl⟩ rfl rfl (REw_all X 9 (dd := d) (hd := by omega) (hW := hWx)  (ln := ln) (e_ln := show Gx 9 = ln from (fx_9)) (le := le) (e_le := show Ax 4 (ln).toNat = le from (congrFun (hFx.2 4 rfl) _).trans (e_le)) (at0 := at1) (e_at0 := show Gx 10 = at1 from (ex_at1)) (fk := fk1) (e_fk := show Gx 16 = fk1 from (ex_fk1)) (op0 := op1) (e_op0 := show Gx 15 = op1 from (ex_op1)) (nd := nd1) (e_nd := show Gx 31 = nd1 from (ex_nd1)) (tk0 := tk1) (e_tk0 := show Gx 11 = tk1 from (ex_tk1)) (ec := ec1) (e_ec := show ecn Ax (Gx 31) = ec1 from ex_ec1) (sy := sy1) (e_sy := show Gx 19 = sy1 from (ex_sy1)) (i_SV := (SV_fx i_SV e_vi (show Gx 29 = vi from (fx_29)) (by omega) hVx))   (p_0 := by omega) (p_1 := by omega) (p_2 := by omega) (p_3 := by omega) (p_4 := by omega) (p_5 := by omega)) (fun o V' hq => ?_)
  obtain ⟨G429, A430, r431, at2_432, fk2_433, op2_434, nd2_435, tk2_436, ec2_437, rfl, rfl, hW438, hF439, hQ440, b441, e442, e443, e444, e445, e446, e447, p448, p449, p450, p451, p452, p453, q454⟩ := hq
  have hF455 := Fr_tr hFx hF439 (Fr_sub (by decide)) (Fr_sub (by decide))
  have k456 : A430 17 (n).toNat = sa1 := (hQ440 17 _ rfl (by omega)).trans (show Ax 17 (n).toNat = sa1 from (ex_sa1))
  have hP457 := Pf_tr hPx hQ440 (by omega)
  have hS458 := Fx_f hSx hF439 (by decide)
  have hV459 := Fx_f hVx hF439 (by decide)
  have sf460 : ND A430 (n) (27) (sa1) (0) (0) (0) (0) (0) := ND_ag (by omega) (Ag_pf hQ440 (by omega)) iv_12
  have sf461 : NdM A430 (nd) (nd1) (sy) := NdM_pf hQ440 (by omega) (by omega) iv_14
  have bat2_432 : (0 : Int) ≤ at2_432 ∧ at2_432 ≤ 3002 := e442 ▸ hW438.1 10
  have bfk2_433 : (0 : Int) ≤ fk2_433 ∧ fk2_433 ≤ 6 := e443 ▸ hW438.1 16
  have bop2_434 : (-2147483648 : Int) ≤ op2_434 ∧ op2_434 ≤ 2147483647 := e444 ▸ hW438.1 15
  have bnd2_435 : (0 : Int) ≤ nd2_435 ∧ nd2_435 ≤ 6999 := e445 ▸ hW438.1 31
  have ztk2_436 := tz_b tk2_436
  have btk2_436 : (0 : Int) ≤ tk2_436 ∧ tk2_436 ≤ 5 := e446 ▸ hW438.1 11
  refine .inr ⟨_, rfl, ?_⟩
  rcases q454 with ⟨a462, a463, a464, a465, a466, a467⟩ | ⟨a468, a469, a470⟩ | ⟨a471, a472, a473, a474, a475, a476, a477⟩
  · have _q : True := trivial
    exfalso
    omega
  · have _q : True := trivial
    refine jr_st (pc' := 106) (i := 19) (m := 7000) (z := n) (y := r431) rfl (by decide) rfl (by decide) (by omega) (by omega) rfl ?_
    have hW479 : Wk G429 (uA A430 19 (n).toNat (r431)) := Wk_a hW438 (show (-2147483648 : Int) ≤ r431 by omega) (show r431 ≤ (2147483647 : Int) by omega)
    have hF480 := Fr_a (z := r431) (k := 19) (n := (n).toNat) hF455 (by decide)
    obtain ⟨A478, eA478⟩ : ∃ q, q = uA A430 19 (n).toNat (r431) := ⟨_, rfl⟩
    rw [← eA478]
    rw [← eA478] at hW479 hF480
    have q481 : A478 19 (n).toNat = r431 := by rw [eA478]; exact uA_eq
    have hP482 : Pf nd A A478 := eA478 ▸ Pf_a hP457 (z := n) (by omega) (by omega)
    have hS483 : Fx sr (sy) A A478 := eA478 ▸ Fx_n hS458 rfl
    have hV484 : Fx [14] (vi) A A478 := eA478 ▸ Fx_n hV459 rfl
    have sf485 : ND A478 (n) (27) (sa1) (0) (r431) (0) (0) (0) := ND_c eA478 sf460
    have sf486 : NdM A478 (nd) (nd1) (sy) := NdM_st eA478 (by decide) sf461
    have ec487 : ecn A478 (G429 31) = ec2_437 := (ecn_e ((congrFun eA478 15).trans (uA_ne (by decide)))).trans e447
    have z488 := tz_f (tk2_436)
    exact c_readSeq_w_at_106p (X := X) (k := k) (hP := hP) (d := d) (Vs := Vs) (sb := sb) (pb := pb) (hvb := hvb) (c0 := c0) (c1 := c1) (G := G) (A := A) (T := T) (lv := lv) (ln := ln) (li := li) (at0 := at0) (fk := fk) (nd := nd) (sy := sy) (na := na) (vi := vi) (le := le) (op0 := op0) (tk0 := tk0) (ec := ec) (hd := hd) (hW := hW) (e_ln := e_ln) (e_li := e_li) (e_at0 := e_at0) (e_fk := e_fk) (e_nd := e_nd) (e_sy := e_sy) (e_na := e_na) (e_vi := e_vi) (e_le := e_le) (e_op0 := e_op0) (e_tk0 := e_tk0) (e_ec := e_ec) (i_LT := i_LT) (i_SV := i_SV) (i_PQ := i_PQ) (h_lv := h_lv) (p_0 := p_0) (p_1 := p_1) (p_2 := p_2) (p_3 := p_3) (p_4 := p_4) (p_5 := p_5) (p_6 := p_6) (p_7 := p_7) (p_8 := p_8) (p_9 := p_9) (p_10 := p_10) L G429 A478 (n) (at2_432) (tk2_436) (fk2_433) (nd2_435) (op2_434) (sy1) (na1) (ec2_437) gL_0 gL_1 gL_2 hW479 hF480 hP482 hS483 hV484 ((e442)) ((e446)) ((e443)) ((e445)) ((e444)) (((hF439.1 19 rfl).trans (ex_sy1))) (((hF439.1 28 rfl).trans (ex_na1))) (ec487) (((hF439.1 9 rfl).trans (fx_9))) (((hF439.1 29 rfl).trans (fx_29))) (by omega) (by omega) (by omega) (by omega) (by omega) (by omega) (by omega) (by omega) (by omega)
  · have _q : True := trivial
    refine jr_st (pc' := 106) (i := 19) (m := 7000) (z := n) (y := r431) rfl (by decide) rfl (by decide) (by omega) (by omega) rfl ?_
    have hW490 : Wk G429 (uA A430 19 (n).toNat (r431)) := Wk_a hW438 (show (-2147483648 : Int) ≤ r431 by omega) (show r431 ≤ (2147483647 : Int) by omega)
    have hF491 := Fr_a (z := r431) (k := 19) (n := (n).toNat) hF455 (by decide)
    obtain ⟨A489, eA489⟩ : ∃ q, q = uA A430 19 (n).toNat (r431) := ⟨_, rfl⟩
    rw [← eA489]
    rw [← eA489] at hW490 hF491
    have q492 : A489 19 (n).toNat = r431 := by rw [eA489]; exact uA_eq
    have hP493 : Pf nd A A489 := eA489 ▸ Pf_a hP457 (z := n) (by omega) (by omega)
    have hS494 : Fx sr (sy) A A489 := eA489 ▸ Fx_n hS458 rfl
    have hV495 : Fx [14] (vi) A A489 := eA489 ▸ Fx_n hV459 rfl
    have sf496 : ND A489 (n) (27) (sa1) (0) (r431) (0) (0) (0) := ND_c eA489 sf460
    have sf497 : NdM A489 (nd) (nd1) (sy) := NdM_st eA489 (by decide) sf461
    have sf498 : wE A489 Vs sb (2 * 9 + 2) (r431) (nd1) (nd2_435) := wE_ag (by omega) (Sg_ne eA489 rfl) (Ag_st eA489 (by omega) (by omega)) a474
    have sf499 : NdM A489 (nd1) (nd2_435) (sy1) := NdM_st eA489 (by decide) a476
    have ec500 : ecn A489 (G429 31) = ec2_437 := (ecn_e ((congrFun eA489 15).trans (uA_ne (by decide)))).trans e447
    have z501 := tz_f (tk2_436)
    exact c_readSeq_w_at_106 (X := X) (k := k) (hP := hP) (d := d) (Vs := Vs) (sb := sb) (pb := pb) (hvb := hvb) (c0 := c0) (c1 := c1) (G := G) (A := A) (T := T) (lv := lv) (ln := ln) (li := li) (at0 := at0) (fk := fk) (nd := nd) (sy := sy) (na := na) (vi := vi) (le := le) (op0 := op0) (tk0 := tk0) (ec := ec) (hd := hd) (hW := hW) (e_ln := e_ln) (e_li := e_li) (e_at0 := e_at0) (e_fk := e_fk) (e_nd := e_nd) (e_sy := e_sy) (e_na := e_na) (e_vi := e_vi) (e_le := e_le) (e_op0 := e_op0) (e_tk0 := e_tk0) (e_ec := e_ec) (i_LT := i_LT) (i_SV := i_SV) (i_PQ := i_PQ) (h_lv := h_lv) (p_0 := p_0) (p_1 := p_1) (p_2 := p_2) (p_3 := p_3) (p_4 := p_4) (p_5 := p_5) (p_6 := p_6) (p_7 := p_7) (p_8 := p_8) (p_9 := p_9) (p_10 := p_10) L G429 A489 (n) (at2_432) (tk2_436) (fk2_433) (nd2_435) (op2_434) (sy1) (na1) (sa1) (ka1) (r431) (ec2_437) gL_0 gL_1 gL_2 hW490 hF491 hP493 hS494 hV495 ((e442)) ((e446)) ((e443)) ((e445)) ((e444)) (((hF439.1 19 rfl).trans (ex_sy1))) (((hF439.1 28 rfl).trans (ex_na1))) ((congrFun ((congrFun eA489 17).trans (uA_ne (by decide))) _).trans (k456)) ((congrFun (((congrFun eA489 7).trans (uA_ne (by decide))).trans (hF439.2 7 rfl)) _).trans (ex_ka1)) ((q492)) (ec500) (((hF439.1 9 rfl).trans (fx_9))) (((hF439.1 29 rfl).trans (fx_29))) (by omega) (by omega) (by omega) (by omega) (by omega) (by omega) (by omega) (by omega) (by omega) (by omega) (by omega) (by omega) (sf496) ((wE_mono (by omega) (by omega) (by omega) sf498)) (by omega) ((NdM_w (NdM_app (sy := sy) sf497 sf499 (by omega) (by omega) (by omega)) (by omega) (by omega) (by omega)))
set_option maxRecDepth 20000 in
set_option maxHeartbeats 4000000 in
theorem c_readSeq_w_at_86p {X : jX} {k : Nat} (hP : RPw X k) {d : Nat} {Vs : Nat → Prop} {sb pb : Int} (hvb : VB Vs sb) {c0 c1 : jC} {G : Nat → Int} {A : Nat → Nat → Int} {T : jH} {lv : Int} {ln li at0 fk nd sy na vi le op0 tk0 ec : Int} (hd : 8 * k + 82 ≤ d + 1) (hW : Wk G A) (e_ln : G 9 = ln) (e_li : G 3 = li) (e_at0 : G 10 = at0) (e_fk : G 16 = fk) (e_nd : G 31 = nd) (e_sy : G 19 = sy) (e_na : G 28 = na) (e_vi : G 29 = vi) (e_le : A 4 (ln).toNat = le) (e_op0 : G 15 = op0) (e_tk0 : G 11 = tk0) (e_ec : ecn A (G 31) = ec) (i_LT : LT G A) (i_SV : SV Vs sb G A) (i_PQ : PQ Vs sb pb G A) (h_lv : (-2147483648 : Int) ≤ lv ∧ lv ≤ 2147483647) (p_0 : 0 ≤ lv ∧ lv ≤ 15) (p_1 : 18 - lv ≤ ((k + 1 : Nat) : Int)) (p_2 : fk = 0) (p_3 : ln < li) (p_4 : at0 ≤ le) (p_5 : op0 = 0) (p_6 : nd ≤ 2 * at0 - tz tk0 + 30) (p_7 : sy ≤ na + 2) (p_8 : vi ≤ sy) (p_9 : sb = sy) (p_10 : 1 ≤ tk0) : ∀ (L : jL) (Gx : Nat → Int) (Ax : Nat → Nat → Int) (n at1 tk1 fk1 nd1 op1 sy1 na1 ec1 : Int), jGet L 0 = some (.ref 66) → jGet L 1 = some (.int (i32 (lv))) → jGet L 2 = some (.int (i32 n)) → Wk Gx Ax → Fr [9, 10, 11, 12, 13, 14, 15, 16, 17, 18, 19, 28, 29, 31] [6, 7, 8, 9, 10, 11, 12, 14, 15, 16, 17, 18, 19, 20, 21, 22, 23, 24, 28] G A Gx Ax → Pf nd A Ax → Fx sr (sy) A Ax → Fx [14] (vi) A Ax → Gx 10 = at1 → Gx 11 = tk1 → Gx 16 = fk1 → Gx 31 = nd1 → Gx 15 = op1 → Gx 19 = sy1 → Gx 28 = na1 → ecn Ax (Gx 31) = ec1 → Gx 9 = ln → Gx 29 = vi → ((-2147483648 : Int) ≤ n ∧ n ≤ 2147483647) → (1 ≤ fk1) → (at0 ≤ at1) → (at1 ≤ le) → (nd ≤ n ∧ n ≤ 6998 ∧ n < nd1) → (sy ≤ sy1) → (sy1 ≤ na1 + 2) → (0 ≤ op1 ∧ op1 ≤ 9) → (nd1 - nd ≤ 2 * at1 - 2 * at0 + 8) → wj X d jm297 (86, L, [], rV c0 c1 Gx Ax T) (fun o V' => ∃ (G' : Nat → Int) (A' : Nat → Nat → Int) (r : Int) (ln2 : Int) (at2 : Int) (fk2 : Int) (nd2 : Int) (sy2 : Int) (na2 : Int) (vi2 : Int) (lf2 : Int) (ec2 : Int), V' = rV c0 c1 G' A' T ∧ o = .inl (some (.int (i32 r))) ∧ Wk G' A' ∧ Fr [9, 10, 11, 12, 13, 14, 15, 16, 17, 18, 19, 28, 29, 31] [6, 7, 8, 9, 10, 11, 12, 14, 15, 16, 17, 18, 19, 20, 21, 22, 23, 24, 28] G A G' A' ∧ Pf nd A A' ∧ Fx sr (sy) A A' ∧ Fx [14] (vi) A A' ∧ ((-2147483648 : Int) ≤ r ∧ r ≤ 2147483647) ∧ G' 9 = ln2 ∧ G' 10 = at2 ∧ G' 16 = fk2 ∧ G' 31 = nd2 ∧ G' 19 = sy2 ∧ G' 28 = na2 ∧ G' 29 = vi2 ∧ A' 3 (ln2).toNat = lf2 ∧ ecn A' (G' 31) = ec2 ∧ (at0 ≤ at2) ∧ (nd ≤ nd2) ∧ (sy ≤ sy2) ∧ (sy2 ≤ na2 + 2) ∧ (vi ≤ vi2) ∧ (vi2 ≤ vi + 1) ∧ (0 ≤ r) ∧ (r ≤ 6999) ∧ (ln ≤ ln2) ∧ (ln2 ≤ li) ∧ (((1 ≤ fk2) ∧ (nd2 - nd ≤ 2 * at2 - (2 * at0 - tz tk0) + 14)) ∨ ((fk2 = 0) ∧ (vi2 = vi) ∧ (ln < ln2) ∧ (nd2 - nd ≤ 2 * at2 - (2 * at0 - tz tk0)) ∧ (at2 < lf2 ∨ li ≤ ln2) ∧ (nd ≤ r) ∧ (r < nd2) ∧ (wSt A' (sy2) pb (wP A' (sy2) pb (k)) (Vs) (r) (nd) (nd2) (sy) (sy2)) ∧ (NX A' (r)) ∧ (nd2 - nd + 5 * (ec2 - ec) ≤ 2 * at2 - (2 * at0 - tz tk0)) ∧ (NdM A' (nd) (nd2) (sy))))) := by
  have hF0 : Fr [9, 10, 11, 12, 13, 14, 15, 16, 17, 18, 19, 28, 29, 31] [6, 7, 8, 9, 10, 11, 12, 14, 15, 16, 17, 18, 19, 20, 21, 22, 23, 24, 28] G A G A := Fr_rf
  have hP0 : Pf nd A A := Pf_rf
  have hS0 : Fx sr (sy) A A := Fx_rf
  have hV0 : Fx [14] (vi) A A := Fx_rf
  have b_ln : (0 : Int) ≤ ln ∧ ln ≤ 3000 := e_ln ▸ hW.1 9
  have b_li : (0 : Int) ≤ li ∧ li ≤ 3000 := e_li ▸ hW.1 3
  have b_at0 : (0 : Int) ≤ at0 ∧ at0 ≤ 3002 := e_at0 ▸ hW.1 10
  have b_fk : (0 : Int) ≤ fk ∧ fk ≤ 6 := e_fk ▸ hW.1 16
  have b_nd : (0 : Int) ≤ nd ∧ nd ≤ 6999 := e_nd ▸ hW.1 31
  have b_sy : (0 : Int) ≤ sy ∧ sy ≤ 202 := e_sy ▸ hW.1 19
  have b_na : (0 : Int) ≤ na ∧ na ≤ 200 := e_na ▸ hW.1 28
  have b_vi : (0 : Int) ≤ vi ∧ vi ≤ 202 := e_vi ▸ hW.1 29
  have b_le : (0 : Int) ≤ le ∧ le ≤ 3000 := e_le ▸ hW.2 4 _
  have b_op0 : (-2147483648 : Int) ≤ op0 ∧ op0 ≤ 2147483647 := e_op0 ▸ hW.1 15
  have z_tk0 := tz_f tk0
  have b_tk0 : (0 : Int) ≤ tk0 ∧ tk0 ≤ 5 := e_tk0 ▸ hW.1 11
  intro L Gx Ax n at1 tk1 fk1 nd1 op1 sy1 na1 ec1 gL_0 gL_1 gL_2 hWx hFx hPx hSx hVx ex_at1 ex_tk1 ex_fk1 ex_nd1 ex_op1 ex_sy1 ex_na1 ex_ec1 fx_9 fx_29 rx_n iv_0 iv_1 iv_2 iv_3 iv_4 iv_5 iv_6 iv_7
  have b_at1 : (0 : Int) ≤ at1 ∧ at1 ≤ 3002 := ex_at1 ▸ hWx.1 10
  have z_tk1 := tz_f tk1
  have b_tk1 : (0 : Int) ≤ tk1 ∧ tk1 ≤ 5 := ex_tk1 ▸ hWx.1 11
  have b_fk1 : (0 : Int) ≤ fk1 ∧ fk1 ≤ 6 := ex_fk1 ▸ hWx.1 16
  have b_nd1 : (0 : Int) ≤ nd1 ∧ nd1 ≤ 6999 := ex_nd1 ▸ hWx.1 31
  have b_op1 : (-2147483648 : Int) ≤ op1 ∧ op1 ≤ 2147483647 := ex_op1 ▸ hWx.1 15
  have b_sy1 : (0 : Int) ≤ sy1 ∧ sy1 ≤ 202 := ex_sy1 ▸ hWx.1 19
  have b_na1 : (0 : Int) ≤ na1 ∧ na1 ≤ 200 := ex_na1 ▸ hWx.1 28
  refine jx_ld (pc' := 87) (l' := L) (st' := [.ref 66]) rfl (jl_aloadn gL_0) ?_
  refine jx_ld (pc' := 88) (l' := L) (st' := [.ref 66, .ref 66]) rfl (jl_aloadn gL_0) ?_
  refine jx_ar (pc' := 90) (st' := [.int (i32 (61)), .ref 66, .ref 66]) rfl rfl rfl rfl ?_
  have b502 : (-2147483648 : Int) ≤ Gx 13 ∧ Gx 13 ≤ 2147483647 := hWx.1 13
  refine jx_vr (pc' := 93) (as := [.int (i32 (61))]) (st := [.ref 66]) rfl rfl rfl rfl ⟨rfl, rfl, Nat.le_of_ble_eq_true rfl⟩ rfl rfl (c_is (dd := d) (hd := by omega) (hW := hWx) (k := 61) (tk := tk1) (e_tk := show Gx 11 = tk1 from (ex_tk1)) (tn := Gx 13) (e_tn := show Gx 13 = Gx 13 from rfl)  (h_k := ⟨(by decide), (by decide)⟩)  ) (fun o V' hq => ?_)
  obtain ⟨r503, rfl, rfl, b504, q505⟩ := hq
  refine .inr ⟨_, rfl, ?_⟩
  rcases q505 with ⟨rfl, a506, a507, a508⟩ | rfl
  · have _q : True := trivial
    refine jx_vr (pc' := 96) (as := [.int (i32 (1))]) (st := []) rfl rfl rfl rfl ⟨rfl, rfl, Nat.le_of_ble_eq_true rfl⟩ rfl rfl (c_need (dd := d) (hd := by omega) (hW := hWx) (g := 1) (ln := ln) (e_ln := show Gx 9 = ln from (fx_9)) (le := le) (e_le := show Ax 4 (ln).toNat = le from (congrFun (hFx.2 4 rfl) _).trans (e_le)) (at0 := at1) (e_at0 := show Gx 10 = at1 from (ex_at1)) (fk := fk1) (e_fk := show Gx 16 = fk1 from (ex_fk1)) (tk0 := tk1) (e_tk0 := show Gx 11 = tk1 from (ex_tk1))  (h_g := ⟨(by decide), (by decide)⟩)  (p_0 := by omega)) (fun o V' hq => ?_)
    obtain ⟨G509, A510, at2_511, tk2_512, fk2_513, rfl, rfl, hW514, hF515, e516, e517, e518, p519, p520, q521⟩ := hq
    have hF522 := Fr_tr hFx hF515 (Fr_sub (by decide)) (Fr_sub (by decide))
    have hP523 := Pf_f hPx hF515 (by decide)
    have hS524 := Fx_f hSx hF515 (by decide)
    have hV525 := Fx_f hVx hF515 (by decide)
    have ec526 : ecn A510 (G509 31) = ec1 := (ecn_f (hF515.2 15 rfl) (hF515.1 31 rfl)).trans ex_ec1
    have bat2_511 : (0 : Int) ≤ at2_511 ∧ at2_511 ≤ 3002 := e516 ▸ hW514.1 10
    have ztk2_512 := tz_b tk2_512
    have btk2_512 : (0 : Int) ≤ tk2_512 ∧ tk2_512 ≤ 5 := e517 ▸ hW514.1 11
    have bfk2_513 : (0 : Int) ≤ fk2_513 ∧ fk2_513 ≤ 6 := e518 ▸ hW514.1 16
    refine .inl ⟨rfl, ?_⟩
    rcases q521 with ⟨a527, a528, a529, a530⟩ | ⟨a531, a532, a533, a534⟩
    · have _q : True := trivial
      have z535 := tz_f (tk2_512)
      exact c_readSeq_w_at_96p (X := X) (k := k) (hP := hP) (d := d) (Vs := Vs) (sb := sb) (pb := pb) (hvb := hvb) (c0 := c0) (c1 := c1) (G := G) (A := A) (T := T) (lv := lv) (ln := ln) (li := li) (at0 := at0) (fk := fk) (nd := nd) (sy := sy) (na := na) (vi := vi) (le := le) (op0 := op0) (tk0 := tk0) (ec := ec) (hd := hd) (hW := hW) (e_ln := e_ln) (e_li := e_li) (e_at0 := e_at0) (e_fk := e_fk) (e_nd := e_nd) (e_sy := e_sy) (e_na := e_na) (e_vi := e_vi) (e_le := e_le) (e_op0 := e_op0) (e_tk0 := e_tk0) (e_ec := e_ec) (i_LT := i_LT) (i_SV := i_SV) (i_PQ := i_PQ) (h_lv := h_lv) (p_0 := p_0) (p_1 := p_1) (p_2 := p_2) (p_3 := p_3) (p_4 := p_4) (p_5 := p_5) (p_6 := p_6) (p_7 := p_7) (p_8 := p_8) (p_9 := p_9) (p_10 := p_10) L G509 A510 (n) (at2_511) (tk2_512) (fk2_513) (nd1) (op1) (sy1) (na1) (ec1) gL_0 gL_1 gL_2 hW514 hF522 hP523 hS524 hV525 ((e516)) ((e517)) ((e518)) (((hF515.1 31 rfl).trans (ex_nd1))) (((hF515.1 15 rfl).trans (ex_op1))) (((hF515.1 19 rfl).trans (ex_sy1))) (((hF515.1 28 rfl).trans (ex_na1))) (ec526) (((hF515.1 9 rfl).trans (fx_9))) (((hF515.1 29 rfl).trans (fx_29))) (by omega) (by omega) (by omega) (by omega) (by omega) (by omega) (by omega) (by omega) (by omega)
    · have _q : True := trivial
      exfalso
      omega
  · have _q : True := trivial
    refine jx_vr (pc' := 96) (as := [.int (i32 (0))]) (st := []) rfl rfl rfl rfl ⟨rfl, rfl, Nat.le_of_ble_eq_true rfl⟩ rfl rfl (c_need (dd := d) (hd := by omega) (hW := hWx) (g := 0) (ln := ln) (e_ln := show Gx 9 = ln from (fx_9)) (le := le) (e_le := show Ax 4 (ln).toNat = le from (congrFun (hFx.2 4 rfl) _).trans (e_le)) (at0 := at1) (e_at0 := show Gx 10 = at1 from (ex_at1)) (fk := fk1) (e_fk := show Gx 16 = fk1 from (ex_fk1)) (tk0 := tk1) (e_tk0 := show Gx 11 = tk1 from (ex_tk1))  (h_g := ⟨(by decide), (by decide)⟩)  (p_0 := by omega)) (fun o V' hq => ?_)
    obtain ⟨G536, A537, at2_538, tk2_539, fk2_540, rfl, rfl, hW541, hF542, e543, e544, e545, p546, p547, q548⟩ := hq
    have hF549 := Fr_tr hFx hF542 (Fr_sub (by decide)) (Fr_sub (by decide))
    have hP550 := Pf_f hPx hF542 (by decide)
    have hS551 := Fx_f hSx hF542 (by decide)
    have hV552 := Fx_f hVx hF542 (by decide)
    have ec553 : ecn A537 (G536 31) = ec1 := (ecn_f (hF542.2 15 rfl) (hF542.1 31 rfl)).trans ex_ec1
    have bat2_538 : (0 : Int) ≤ at2_538 ∧ at2_538 ≤ 3002 := e543 ▸ hW541.1 10
    have ztk2_539 := tz_b tk2_539
    have btk2_539 : (0 : Int) ≤ tk2_539 ∧ tk2_539 ≤ 5 := e544 ▸ hW541.1 11
    have bfk2_540 : (0 : Int) ≤ fk2_540 ∧ fk2_540 ≤ 6 := e545 ▸ hW541.1 16
    refine .inl ⟨rfl, ?_⟩
    rcases q548 with ⟨a554, a555, a556, a557⟩ | ⟨a558, a559, a560, a561⟩
    · have _q : True := trivial
      have z562 := tz_f (tk2_539)
      exact c_readSeq_w_at_96p (X := X) (k := k) (hP := hP) (d := d) (Vs := Vs) (sb := sb) (pb := pb) (hvb := hvb) (c0 := c0) (c1 := c1) (G := G) (A := A) (T := T) (lv := lv) (ln := ln) (li := li) (at0 := at0) (fk := fk) (nd := nd) (sy := sy) (na := na) (vi := vi) (le := le) (op0 := op0) (tk0 := tk0) (ec := ec) (hd := hd) (hW := hW) (e_ln := e_ln) (e_li := e_li) (e_at0 := e_at0) (e_fk := e_fk) (e_nd := e_nd) (e_sy := e_sy) (e_na := e_na) (e_vi := e_vi) (e_le := e_le) (e_op0 := e_op0) (e_tk0 := e_tk0) (e_ec := e_ec) (i_LT := i_LT) (i_SV := i_SV) (i_PQ := i_PQ) (h_lv := h_lv) (p_0 := p_0) (p_1 := p_1) (p_2 := p_2) (p_3 := p_3) (p_4 := p_4) (p_5 := p_5) (p_6 := p_6) (p_7 := p_7) (p_8 := p_8) (p_9 := p_9) (p_10 := p_10) L G536 A537 (n) (at2_538) (tk2_539) (fk2_540) (nd1) (op1) (sy1) (na1) (ec1) gL_0 gL_1 gL_2 hW541 hF549 hP550 hS551 hV552 ((e543)) ((e544)) ((e545)) (((hF542.1 31 rfl).trans (ex_nd1))) (((hF542.1 15 rfl).trans (ex_op1))) (((hF542.1 19 rfl).trans (ex_sy1))) (((hF542.1 28 rfl).trans (ex_na1))) (ec553) (((hF542.1 9 rfl).trans (fx_9))) (((hF542.1 29 rfl).trans (fx_29))) (by omega) (by omega) (by omega) (by omega) (by omega) (by omega) (by omega) (by omega) (by omega)
    · have _q : True := trivial
      exfalso
      omega
set_option maxRecDepth 20000 in
set_option maxHeartbeats 4000000 in
theorem c_readSeq_w_at_86 {X : jX} {k : Nat} (hP : RPw X k) {d : Nat} {Vs : Nat → Prop} {sb pb : Int} (hvb : VB Vs sb) {c0 c1 : jC} {G : Nat → Int} {A : Nat → Nat → Int} {T : jH} {lv : Int} {ln li at0 fk nd sy na vi le op0 tk0 ec : Int} (hd : 8 * k + 82 ≤ d + 1) (hW : Wk G A) (e_ln : G 9 = ln) (e_li : G 3 = li) (e_at0 : G 10 = at0) (e_fk : G 16 = fk) (e_nd : G 31 = nd) (e_sy : G 19 = sy) (e_na : G 28 = na) (e_vi : G 29 = vi) (e_le : A 4 (ln).toNat = le) (e_op0 : G 15 = op0) (e_tk0 : G 11 = tk0) (e_ec : ecn A (G 31) = ec) (i_LT : LT G A) (i_SV : SV Vs sb G A) (i_PQ : PQ Vs sb pb G A) (h_lv : (-2147483648 : Int) ≤ lv ∧ lv ≤ 2147483647) (p_0 : 0 ≤ lv ∧ lv ≤ 15) (p_1 : 18 - lv ≤ ((k + 1 : Nat) : Int)) (p_2 : fk = 0) (p_3 : ln < li) (p_4 : at0 ≤ le) (p_5 : op0 = 0) (p_6 : nd ≤ 2 * at0 - tz tk0 + 30) (p_7 : sy ≤ na + 2) (p_8 : vi ≤ sy) (p_9 : sb = sy) (p_10 : 1 ≤ tk0) : ∀ (L : jL) (Gx : Nat → Int) (Ax : Nat → Nat → Int) (n at1 tk1 fk1 nd1 op1 sy1 na1 sa1 ka1 ec1 : Int), jGet L 0 = some (.ref 66) → jGet L 1 = some (.int (i32 (lv))) → jGet L 2 = some (.int (i32 n)) → Wk Gx Ax → Fr [9, 10, 11, 12, 13, 14, 15, 16, 17, 18, 19, 28, 29, 31] [6, 7, 8, 9, 10, 11, 12, 14, 15, 16, 17, 18, 19, 20, 21, 22, 23, 24, 28] G A Gx Ax → Pf nd A Ax → Fx sr (sy) A Ax → Fx [14] (vi) A Ax → Gx 10 = at1 → Gx 11 = tk1 → Gx 16 = fk1 → Gx 31 = nd1 → Gx 15 = op1 → Gx 19 = sy1 → Gx 28 = na1 → Ax 17 (n).toNat = sa1 → Ax 7 (sa1).toNat = ka1 → ecn Ax (Gx 31) = ec1 → Gx 9 = ln → Gx 29 = vi → ((-2147483648 : Int) ≤ n ∧ n ≤ 2147483647) → (fk1 = 0) → (at0 ≤ at1) → (at1 ≤ le) → (n = nd) → (n ≤ 6998 ∧ n < nd1) → (sy1 = sy + 1) → (sa1 = sy) → (sy1 ≤ na1 + 2) → (op1 = 0) → (nd1 - nd ≤ (2 * at1 - tz tk1) - (2 * at0 - tz tk0)) → (ka1 = 9) → (nd1 = n + 1) → (ND Ax (n) (27) (sa1) (0) (0) (0) (0) (0)) → (nd1 - nd + 5 * (ec1 - ec) ≤ (2 * at1 - tz tk1) - (2 * at0 - tz tk0)) → (NdM Ax (nd) (nd1) (sy)) → wj X d jm297 (86, L, [], rV c0 c1 Gx Ax T) (fun o V' => ∃ (G' : Nat → Int) (A' : Nat → Nat → Int) (r : Int) (ln2 : Int) (at2 : Int) (fk2 : Int) (nd2 : Int) (sy2 : Int) (na2 : Int) (vi2 : Int) (lf2 : Int) (ec2 : Int), V' = rV c0 c1 G' A' T ∧ o = .inl (some (.int (i32 r))) ∧ Wk G' A' ∧ Fr [9, 10, 11, 12, 13, 14, 15, 16, 17, 18, 19, 28, 29, 31] [6, 7, 8, 9, 10, 11, 12, 14, 15, 16, 17, 18, 19, 20, 21, 22, 23, 24, 28] G A G' A' ∧ Pf nd A A' ∧ Fx sr (sy) A A' ∧ Fx [14] (vi) A A' ∧ ((-2147483648 : Int) ≤ r ∧ r ≤ 2147483647) ∧ G' 9 = ln2 ∧ G' 10 = at2 ∧ G' 16 = fk2 ∧ G' 31 = nd2 ∧ G' 19 = sy2 ∧ G' 28 = na2 ∧ G' 29 = vi2 ∧ A' 3 (ln2).toNat = lf2 ∧ ecn A' (G' 31) = ec2 ∧ (at0 ≤ at2) ∧ (nd ≤ nd2) ∧ (sy ≤ sy2) ∧ (sy2 ≤ na2 + 2) ∧ (vi ≤ vi2) ∧ (vi2 ≤ vi + 1) ∧ (0 ≤ r) ∧ (r ≤ 6999) ∧ (ln ≤ ln2) ∧ (ln2 ≤ li) ∧ (((1 ≤ fk2) ∧ (nd2 - nd ≤ 2 * at2 - (2 * at0 - tz tk0) + 14)) ∨ ((fk2 = 0) ∧ (vi2 = vi) ∧ (ln < ln2) ∧ (nd2 - nd ≤ 2 * at2 - (2 * at0 - tz tk0)) ∧ (at2 < lf2 ∨ li ≤ ln2) ∧ (nd ≤ r) ∧ (r < nd2) ∧ (wSt A' (sy2) pb (wP A' (sy2) pb (k)) (Vs) (r) (nd) (nd2) (sy) (sy2)) ∧ (NX A' (r)) ∧ (nd2 - nd + 5 * (ec2 - ec) ≤ 2 * at2 - (2 * at0 - tz tk0)) ∧ (NdM A' (nd) (nd2) (sy))))) := by
  have hF0 : Fr [9, 10, 11, 12, 13, 14, 15, 16, 17, 18, 19, 28, 29, 31] [6, 7, 8, 9, 10, 11, 12, 14, 15, 16, 17, 18, 19, 20, 21, 22, 23, 24, 28] G A G A := Fr_rf
  have hP0 : Pf nd A A := Pf_rf
  have hS0 : Fx sr (sy) A A := Fx_rf
  have hV0 : Fx [14] (vi) A A := Fx_rf
  have b_ln : (0 : Int) ≤ ln ∧ ln ≤ 3000 := e_ln ▸ hW.1 9
  have b_li : (0 : Int) ≤ li ∧ li ≤ 3000 := e_li ▸ hW.1 3
  have b_at0 : (0 : Int) ≤ at0 ∧ at0 ≤ 3002 := e_at0 ▸ hW.1 10
  have b_fk : (0 : Int) ≤ fk ∧ fk ≤ 6 := e_fk ▸ hW.1 16
  have b_nd : (0 : Int) ≤ nd ∧ nd ≤ 6999 := e_nd ▸ hW.1 31
  have b_sy : (0 : Int) ≤ sy ∧ sy ≤ 202 := e_sy ▸ hW.1 19
  have b_na : (0 : Int) ≤ na ∧ na ≤ 200 := e_na ▸ hW.1 28
  have b_vi : (0 : Int) ≤ vi ∧ vi ≤ 202 := e_vi ▸ hW.1 29
  have b_le : (0 : Int) ≤ le ∧ le ≤ 3000 := e_le ▸ hW.2 4 _
  have b_op0 : (-2147483648 : Int) ≤ op0 ∧ op0 ≤ 2147483647 := e_op0 ▸ hW.1 15
  have z_tk0 := tz_f tk0
  have b_tk0 : (0 : Int) ≤ tk0 ∧ tk0 ≤ 5 := e_tk0 ▸ hW.1 11
  intro L Gx Ax n at1 tk1 fk1 nd1 op1 sy1 na1 sa1 ka1 ec1 gL_0 gL_1 gL_2 hWx hFx hPx hSx hVx ex_at1 ex_tk1 ex_fk1 ex_nd1 ex_op1 ex_sy1 ex_na1 ex_sa1 ex_ka1 ex_ec1 fx_9 fx_29 rx_n iv_0 iv_1 iv_2 iv_3 iv_4 iv_5 iv_6 iv_7 iv_8 iv_9 iv_10 iv_11 iv_12 iv_13 iv_14
  have b_at1 : (0 : Int) ≤ at1 ∧ at1 ≤ 3002 := ex_at1 ▸ hWx.1 10
  have z_tk1 := tz_f tk1
  have b_tk1 : (0 : Int) ≤ tk1 ∧ tk1 ≤ 5 := ex_tk1 ▸ hWx.1 11
  have b_fk1 : (0 : Int) ≤ fk1 ∧ fk1 ≤ 6 := ex_fk1 ▸ hWx.1 16
  have b_nd1 : (0 : Int) ≤ nd1 ∧ nd1 ≤ 6999 := ex_nd1 ▸ hWx.1 31
  have b_op1 : (-2147483648 : Int) ≤ op1 ∧ op1 ≤ 2147483647 := ex_op1 ▸ hWx.1 15
  have b_sy1 : (0 : Int) ≤ sy1 ∧ sy1 ≤ 202 := ex_sy1 ▸ hWx.1 19
  have b_na1 : (0 : Int) ≤ na1 ∧ na1 ≤ 200 := ex_na1 ▸ hWx.1 28
  refine jx_ld (pc' := 87) (l' := L) (st' := [.ref 66]) rfl (jl_aloadn gL_0) ?_
  refine jx_ld (pc' := 88) (l' := L) (st' := [.ref 66, .ref 66]) rfl (jl_aloadn gL_0) ?_
  refine jx_ar (pc' := 90) (st' := [.int (i32 (61)), .ref 66, .ref 66]) rfl rfl rfl rfl ?_
  have b563 : (-2147483648 : Int) ≤ Gx 13 ∧ Gx 13 ≤ 2147483647 := hWx.1 13
  refine jx_vr (pc' := 93) (as := [.int (i32 (61))]) (st := [.ref 66]) rfl rfl rfl rfl ⟨rfl, rfl, Nat.le_of_ble_eq_true rfl⟩ rfl rfl (c_is (dd := d) (hd := by omega) (hW := hWx) (k := 61) (tk := tk1) (e_tk := show Gx 11 = tk1 from (ex_tk1)) (tn := Gx 13) (e_tn := show Gx 13 = Gx 13 from rfl)  (h_k := ⟨(by decide), (by decide)⟩)  ) (fun o V' hq => ?_)
  obtain ⟨r564, rfl, rfl, b565, q566⟩ := hq
  refine .inr ⟨_, rfl, ?_⟩
  rcases q566 with ⟨rfl, a567, a568, a569⟩ | rfl
  · have _q : True := trivial
    refine jx_vr (pc' := 96) (as := [.int (i32 (1))]) (st := []) rfl rfl rfl rfl ⟨rfl, rfl, Nat.le_of_ble_eq_true rfl⟩ rfl rfl (c_need (dd := d) (hd := by omega) (hW := hWx) (g := 1) (ln := ln) (e_ln := show Gx 9 = ln from (fx_9)) (le := le) (e_le := show Ax 4 (ln).toNat = le from (congrFun (hFx.2 4 rfl) _).trans (e_le)) (at0 := at1) (e_at0 := show Gx 10 = at1 from (ex_at1)) (fk := fk1) (e_fk := show Gx 16 = fk1 from (ex_fk1)) (tk0 := tk1) (e_tk0 := show Gx 11 = tk1 from (ex_tk1))  (h_g := ⟨(by decide), (by decide)⟩)  (p_0 := by omega)) (fun o V' hq => ?_)
    obtain ⟨G570, A571, at2_572, tk2_573, fk2_574, rfl, rfl, hW575, hF576, e577, e578, e579, p580, p581, q582⟩ := hq
    have hF583 := Fr_tr hFx hF576 (Fr_sub (by decide)) (Fr_sub (by decide))
    have hP584 := Pf_f hPx hF576 (by decide)
    have hS585 := Fx_f hSx hF576 (by decide)
    have hV586 := Fx_f hVx hF576 (by decide)
    have sf587 : ND A571 (n) (27) (sa1) (0) (0) (0) (0) (0) := ND_ag (by omega) (Ag_fr hF576 (by decide)) iv_12
    have sf588 : NdM A571 (nd) (nd1) (sy) := NdM_f hF576 (by decide) iv_14
    have ec589 : ecn A571 (G570 31) = ec1 := (ecn_f (hF576.2 15 rfl) (hF576.1 31 rfl)).trans ex_ec1
    have bat2_572 : (0 : Int) ≤ at2_572 ∧ at2_572 ≤ 3002 := e577 ▸ hW575.1 10
    have ztk2_573 := tz_b tk2_573
    have btk2_573 : (0 : Int) ≤ tk2_573 ∧ tk2_573 ≤ 5 := e578 ▸ hW575.1 11
    have bfk2_574 : (0 : Int) ≤ fk2_574 ∧ fk2_574 ≤ 6 := e579 ▸ hW575.1 16
    refine .inl ⟨rfl, ?_⟩
    rcases q582 with ⟨a590, a591, a592, a593⟩ | ⟨a594, a595, a596, a597⟩
    · have _q : True := trivial
      have z598 := tz_f (tk2_573)
      exact c_readSeq_w_at_96p (X := X) (k := k) (hP := hP) (d := d) (Vs := Vs) (sb := sb) (pb := pb) (hvb := hvb) (c0 := c0) (c1 := c1) (G := G) (A := A) (T := T) (lv := lv) (ln := ln) (li := li) (at0 := at0) (fk := fk) (nd := nd) (sy := sy) (na := na) (vi := vi) (le := le) (op0 := op0) (tk0 := tk0) (ec := ec) (hd := hd) (hW := hW) (e_ln := e_ln) (e_li := e_li) (e_at0 := e_at0) (e_fk := e_fk) (e_nd := e_nd) (e_sy := e_sy) (e_na := e_na) (e_vi := e_vi) (e_le := e_le) (e_op0 := e_op0) (e_tk0 := e_tk0) (e_ec := e_ec) (i_LT := i_LT) (i_SV := i_SV) (i_PQ := i_PQ) (h_lv := h_lv) (p_0 := p_0) (p_1 := p_1) (p_2 := p_2) (p_3 := p_3) (p_4 := p_4) (p_5 := p_5) (p_6 := p_6) (p_7 := p_7) (p_8 := p_8) (p_9 := p_9) (p_10 := p_10) L G570 A571 (n) (at2_572) (tk2_573) (fk2_574) (nd1) (op1) (sy1) (na1) (ec1) gL_0 gL_1 gL_2 hW575 hF583 hP584 hS585 hV586 ((e577)) ((e578)) ((e579)) (((hF576.1 31 rfl).trans (ex_nd1))) (((hF576.1 15 rfl).trans (ex_op1))) (((hF576.1 19 rfl).trans (ex_sy1))) (((hF576.1 28 rfl).trans (ex_na1))) (ec589) (((hF576.1 9 rfl).trans (fx_9))) (((hF576.1 29 rfl).trans (fx_29))) (by omega) (by omega) (by omega) (by omega) (by omega) (by omega) (by omega) (by omega) (by omega)
    · have _q : True := trivial
      have pz599 : at1 + tz tk2_573 ≤ at2_572 := by omega
      have z600 := tz_f (tk2_573)
      exact c_readSeq_w_at_96 (X := X) (k := k) (hP := hP) (d := d) (Vs := Vs) (sb := sb) (pb := pb) (hvb := hvb) (c0 := c0) (c1 := c1) (G := G) (A := A) (T := T) (lv := lv) (ln := ln) (li := li) (at0 := at0) (fk := fk) (nd := nd) (sy := sy) (na := na) (vi := vi) (le := le) (op0 := op0) (tk0 := tk0) (ec := ec) (hd := hd) (hW := hW) (e_ln := e_ln) (e_li := e_li) (e_at0 := e_at0) (e_fk := e_fk) (e_nd := e_nd) (e_sy := e_sy) (e_na := e_na) (e_vi := e_vi) (e_le := e_le) (e_op0 := e_op0) (e_tk0 := e_tk0) (e_ec := e_ec) (i_LT := i_LT) (i_SV := i_SV) (i_PQ := i_PQ) (h_lv := h_lv) (p_0 := p_0) (p_1 := p_1) (p_2 := p_2) (p_3 := p_3) (p_4 := p_4) (p_5 := p_5) (p_6 := p_6) (p_7 := p_7) (p_8 := p_8) (p_9 := p_9) (p_10 := p_10) L G570 A571 (n) (at2_572) (tk2_573) (fk2_574) (nd1) (op1) (sy1) (na1) (sa1) (ka1) (ec1) gL_0 gL_1 gL_2 hW575 hF583 hP584 hS585 hV586 ((e577)) ((e578)) ((e579)) (((hF576.1 31 rfl).trans (ex_nd1))) (((hF576.1 15 rfl).trans (ex_op1))) (((hF576.1 19 rfl).trans (ex_sy1))) (((hF576.1 28 rfl).trans (ex_na1))) ((congrFun (hF576.2 17 rfl) _).trans (ex_sa1)) ((congrFun (hF576.2 7 rfl) _).trans (ex_ka1)) (ec589) (((hF576.1 9 rfl).trans (fx_9))) (((hF576.1 29 rfl).trans (fx_29))) (by omega) (by omega) (by omega) (by omega) (by omega) (by omega) (by omega) (by omega) (by omega) (by omega) (by omega) (by omega) (by omega) (sf587) (by omega) (sf588)
  · have _q : True := trivial
    refine jx_vr (pc' := 96) (as := [.int (i32 (0))]) (st := []) rfl rfl rfl rfl ⟨rfl, rfl, Nat.le_of_ble_eq_true rfl⟩ rfl rfl (c_need (dd := d) (hd := by omega) (hW := hWx) (g := 0) (ln := ln) (e_ln := show Gx 9 = ln from (fx_9)) (le := le) (e_le := show Ax 4 (ln).toNat = le from (congrFun (hFx.2 4 rfl) _).trans (e_le)) (at0 := at1) (e_at0 := show Gx 10 = at1 from (ex_at1)) (fk := fk1) (e_fk := show Gx 16 = fk1 from (ex_fk1)) (tk0 := tk1) (e_tk0 := show Gx 11 = tk1 from (ex_tk1))  (h_g := ⟨(by decide), (by decide)⟩)  (p_0 := by omega)) (fun o V' hq => ?_)
    obtain ⟨G601, A602, at2_603, tk2_604, fk2_605, rfl, rfl, hW606, hF607, e608, e609, e610, p611, p612, q613⟩ := hq
    have hF614 := Fr_tr hFx hF607 (Fr_sub (by decide)) (Fr_sub (by decide))
    have hP615 := Pf_f hPx hF607 (by decide)
    have hS616 := Fx_f hSx hF607 (by decide)
    have hV617 := Fx_f hVx hF607 (by decide)
    have sf618 : ND A602 (n) (27) (sa1) (0) (0) (0) (0) (0) := ND_ag (by omega) (Ag_fr hF607 (by decide)) iv_12
    have sf619 : NdM A602 (nd) (nd1) (sy) := NdM_f hF607 (by decide) iv_14
    have ec620 : ecn A602 (G601 31) = ec1 := (ecn_f (hF607.2 15 rfl) (hF607.1 31 rfl)).trans ex_ec1
    have bat2_603 : (0 : Int) ≤ at2_603 ∧ at2_603 ≤ 3002 := e608 ▸ hW606.1 10
    have ztk2_604 := tz_b tk2_604
    have btk2_604 : (0 : Int) ≤ tk2_604 ∧ tk2_604 ≤ 5 := e609 ▸ hW606.1 11
    have bfk2_605 : (0 : Int) ≤ fk2_605 ∧ fk2_605 ≤ 6 := e610 ▸ hW606.1 16
    refine .inl ⟨rfl, ?_⟩
    rcases q613 with ⟨a621, a622, a623, a624⟩ | ⟨a625, a626, a627, a628⟩
    · have _q : True := trivial
      have z629 := tz_f (tk2_604)
      exact c_readSeq_w_at_96p (X := X) (k := k) (hP := hP) (d := d) (Vs := Vs) (sb := sb) (pb := pb) (hvb := hvb) (c0 := c0) (c1 := c1) (G := G) (A := A) (T := T) (lv := lv) (ln := ln) (li := li) (at0 := at0) (fk := fk) (nd := nd) (sy := sy) (na := na) (vi := vi) (le := le) (op0 := op0) (tk0 := tk0) (ec := ec) (hd := hd) (hW := hW) (e_ln := e_ln) (e_li := e_li) (e_at0 := e_at0) (e_fk := e_fk) (e_nd := e_nd) (e_sy := e_sy) (e_na := e_na) (e_vi := e_vi) (e_le := e_le) (e_op0 := e_op0) (e_tk0 := e_tk0) (e_ec := e_ec) (i_LT := i_LT) (i_SV := i_SV) (i_PQ := i_PQ) (h_lv := h_lv) (p_0 := p_0) (p_1 := p_1) (p_2 := p_2) (p_3 := p_3) (p_4 := p_4) (p_5 := p_5) (p_6 := p_6) (p_7 := p_7) (p_8 := p_8) (p_9 := p_9) (p_10 := p_10) L G601 A602 (n) (at2_603) (tk2_604) (fk2_605) (nd1) (op1) (sy1) (na1) (ec1) gL_0 gL_1 gL_2 hW606 hF614 hP615 hS616 hV617 ((e608)) ((e609)) ((e610)) (((hF607.1 31 rfl).trans (ex_nd1))) (((hF607.1 15 rfl).trans (ex_op1))) (((hF607.1 19 rfl).trans (ex_sy1))) (((hF607.1 28 rfl).trans (ex_na1))) (ec620) (((hF607.1 9 rfl).trans (fx_9))) (((hF607.1 29 rfl).trans (fx_29))) (by omega) (by omega) (by omega) (by omega) (by omega) (by omega) (by omega) (by omega) (by omega)
    · have _q : True := trivial
      exfalso
      omega
set_option maxRecDepth 20000 in
set_option maxHeartbeats 4000000 in
theorem c_readSeq_w {X : jX} {k : Nat} (hP : RPw X k) {dd : Nat} {Vs : Nat → Prop} {sb pb : Int} (hvb : VB Vs sb) {c0 c1 : jC} {G : Nat → Int} {A : Nat → Nat → Int} {T : jH} {lv : Int} {ln li at0 fk nd sy na vi le op0 tk0 ec : Int} (hd : 8 * k + 82 ≤ dd) (hW : Wk G A) (e_ln : G 9 = ln) (e_li : G 3 = li) (e_at0 : G 10 = at0) (e_fk : G 16 = fk) (e_nd : G 31 = nd) (e_sy : G 19 = sy) (e_na : G 28 = na) (e_vi : G 29 = vi) (e_le : A 4 (ln).toNat = le) (e_op0 : G 15 = op0) (e_tk0 : G 11 = tk0) (e_ec : ecn A (G 31) = ec) (i_LT : LT G A) (i_SV : SV Vs sb G A) (i_PQ : PQ Vs sb pb G A) (h_lv : (-2147483648 : Int) ≤ lv ∧ lv ≤ 2147483647) (p_0 : 0 ≤ lv ∧ lv ≤ 15) (p_1 : 18 - lv ≤ ((k + 1 : Nat) : Int)) (p_2 : fk = 0) (p_3 : ln < li) (p_4 : at0 ≤ le) (p_5 : op0 = 0) (p_6 : nd ≤ 2 * at0 - tz tk0 + 30) (p_7 : sy ≤ na + 2) (p_8 : vi ≤ sy) (p_9 : sb = sy) (p_10 : 1 ≤ tk0) : wk X dd 297 [.ref 66, .int (i32 lv)] (rV c0 c1 G A T) (fun o V' => ∃ (G' : Nat → Int) (A' : Nat → Nat → Int) (r : Int) (ln2 : Int) (at2 : Int) (fk2 : Int) (nd2 : Int) (sy2 : Int) (na2 : Int) (vi2 : Int) (lf2 : Int) (ec2 : Int), V' = rV c0 c1 G' A' T ∧ o = .inl (some (.int (i32 r))) ∧ Wk G' A' ∧ Fr [9, 10, 11, 12, 13, 14, 15, 16, 17, 18, 19, 28, 29, 31] [6, 7, 8, 9, 10, 11, 12, 14, 15, 16, 17, 18, 19, 20, 21, 22, 23, 24, 28] G A G' A' ∧ Pf nd A A' ∧ Fx sr (sy) A A' ∧ Fx [14] (vi) A A' ∧ ((-2147483648 : Int) ≤ r ∧ r ≤ 2147483647) ∧ G' 9 = ln2 ∧ G' 10 = at2 ∧ G' 16 = fk2 ∧ G' 31 = nd2 ∧ G' 19 = sy2 ∧ G' 28 = na2 ∧ G' 29 = vi2 ∧ A' 3 (ln2).toNat = lf2 ∧ ecn A' (G' 31) = ec2 ∧ (at0 ≤ at2) ∧ (nd ≤ nd2) ∧ (sy ≤ sy2) ∧ (sy2 ≤ na2 + 2) ∧ (vi ≤ vi2) ∧ (vi2 ≤ vi + 1) ∧ (0 ≤ r) ∧ (r ≤ 6999) ∧ (ln ≤ ln2) ∧ (ln2 ≤ li) ∧ (((1 ≤ fk2) ∧ (nd2 - nd ≤ 2 * at2 - (2 * at0 - tz tk0) + 14)) ∨ ((fk2 = 0) ∧ (vi2 = vi) ∧ (ln < ln2) ∧ (nd2 - nd ≤ 2 * at2 - (2 * at0 - tz tk0)) ∧ (at2 < lf2 ∨ li ≤ ln2) ∧ (nd ≤ r) ∧ (r < nd2) ∧ (wSt A' (sy2) pb (wP A' (sy2) pb (k)) (Vs) (r) (nd) (nd2) (sy) (sy2)) ∧ (NX A' (r)) ∧ (nd2 - nd + 5 * (ec2 - ec) ≤ 2 * at2 - (2 * at0 - tz tk0)) ∧ (NdM A' (nd) (nd2) (sy))))) := by
  obtain ⟨d, rfl⟩ : ∃ d, dd = d + 1 := ⟨dd - 1, by omega⟩
  refine wk_of (e := jm297) rfl (Nat.le_of_ble_eq_true rfl) ?_
  show wj X d jm297 (0, [(0, .ref 66), (1, .int (i32 (lv)))], [], rV c0 c1 G A T) _
  have hF0 : Fr [9, 10, 11, 12, 13, 14, 15, 16, 17, 18, 19, 28, 29, 31] [6, 7, 8, 9, 10, 11, 12, 14, 15, 16, 17, 18, 19, 20, 21, 22, 23, 24, 28] G A G A := Fr_rf
  have hP0 : Pf nd A A := Pf_rf
  have hS0 : Fx sr (sy) A A := Fx_rf
  have hV0 : Fx [14] (vi) A A := Fx_rf
  have b_ln : (0 : Int) ≤ ln ∧ ln ≤ 3000 := e_ln ▸ hW.1 9
  have b_li : (0 : Int) ≤ li ∧ li ≤ 3000 := e_li ▸ hW.1 3
  have b_at0 : (0 : Int) ≤ at0 ∧ at0 ≤ 3002 := e_at0 ▸ hW.1 10
  have b_fk : (0 : Int) ≤ fk ∧ fk ≤ 6 := e_fk ▸ hW.1 16
  have b_nd : (0 : Int) ≤ nd ∧ nd ≤ 6999 := e_nd ▸ hW.1 31
  have b_sy : (0 : Int) ≤ sy ∧ sy ≤ 202 := e_sy ▸ hW.1 19
  have b_na : (0 : Int) ≤ na ∧ na ≤ 200 := e_na ▸ hW.1 28
  have b_vi : (0 : Int) ≤ vi ∧ vi ≤ 202 := e_vi ▸ hW.1 29
  have b_le : (0 : Int) ≤ le ∧ le ≤ 3000 := e_le ▸ hW.2 4 _
  have b_op0 : (-2147483648 : Int) ≤ op0 ∧ op0 ≤ 2147483647 := e_op0 ▸ hW.1 15
  have z_tk0 := tz_f tk0
  have b_tk0 : (0 : Int) ≤ tk0 ∧ tk0 ≤ 5 := e_tk0 ▸ hW.1 11
  refine jx_ld (pc' := 1) (l' := [(0, .ref 66), (1, .int (i32 (lv)))]) (st' := [.ref 66]) rfl (jl_aloadn rfl) ?_
  refine jx_vr (pc' := 4) (as := []) (st := []) rfl rfl rfl rfl ⟨rfl, rfl, Nat.le_of_ble_eq_true rfl⟩ rfl rfl (c_next (dd := d) (hd := by omega) (hW := hW)  (ln := ln) (e_ln := show G 9 = ln from (e_ln)) (le := le) (e_le := show A 4 (ln).toNat = le from (e_le)) (at0 := at0) (e_at0 := show G 10 = at0 from (e_at0))    (p_0 := by omega)) (fun o V' hq => ?_)
  obtain ⟨G630, A631, at2_632, tk2_633, rfl, rfl, hW634, hF635, e636, e637, p638, p639, p640, -⟩ := hq
  have hF642 := Fr_tr hF0 hF635 (Fr_sub (by decide)) (Fr_sub (by decide))
  have hP643 := Pf_f hP0 hF635 (by decide)
  have hS644 := Fx_f hS0 hF635 (by decide)
  have hV645 := Fx_f hV0 hF635 (by decide)
  have ec646 : ecn A631 (G630 31) = ec := (ecn_f (hF635.2 15 rfl) (hF635.1 31 rfl)).trans e_ec
  have bat2_632 : (0 : Int) ≤ at2_632 ∧ at2_632 ≤ 3002 := e636 ▸ hW634.1 10
  have ztk2_633 := tz_b tk2_633
  have btk2_633 : (0 : Int) ≤ tk2_633 ∧ tk2_633 ≤ 5 := e637 ▸ hW634.1 11
  refine .inl ⟨rfl, ?_⟩
  have pz647 : at0 + tz tk2_633 ≤ at2_632 := by omega
  refine jx_ld (pc' := 5) (l' := [(0, .ref 66), (1, .int (i32 (lv)))]) (st' := [.ref 66]) rfl (jl_aloadn rfl) ?_
  have z648 := tz_f (tk2_633)
  refine jr_get (pc' := 8) (i := 11) (v := .int (i32 (tk2_633))) rfl rfl (by decide) (rFv_eq (by decide) (show G630 11 = tk2_633 from (e637))) rfl ?_
  refine jx_if_ne (pc' := 11) (tg := 38) rfl rfl rfl (Int.le_trans (by decide : (-2147483648 : Int) ≤ 0) btk2_633.1) (Int.le_trans btk2_633.2 (by decide : (5 : Int) ≤ 2147483647)) (fun h649 => ?_) (fun h649 => ?_)
  · have _q := h649
    refine jx_ld (pc' := 39) (l' := [(0, .ref 66), (1, .int (i32 (lv)))]) (st' := [.ref 66]) rfl (jl_aloadn rfl) ?_
    have z650 := tz_f (tk2_633)
    refine jr_get (pc' := 42) (i := 11) (v := .int (i32 (tk2_633))) rfl rfl (by decide) (rFv_eq (by decide) (show G630 11 = tk2_633 from (e637))) rfl ?_
    refine jx_ar (pc' := 43) (st' := [.int (i32 (1)), .int (i32 (tk2_633))]) rfl rfl rfl rfl ?_
    refine jx_icmp_eq (pc' := 46) (tg := 57) rfl rfl rfl (Int.le_trans (by decide : (-2147483648 : Int) ≤ 0) btk2_633.1) (Int.le_trans btk2_633.2 (by decide : (5 : Int) ≤ 2147483647)) (by decide) (by decide) (fun h651 => ?_) (fun h651 => ?_)
    · have _q := h651
      refine jx_ld (pc' := 58) (l' := [(0, .ref 66), (1, .int (i32 (lv)))]) (st' := [.ref 66]) rfl (jl_aloadn rfl) ?_
      refine jx_ar (pc' := 60) (st' := [.int (i32 (27)), .ref 66]) rfl rfl rfl rfl ?_
      refine jx_ar (pc' := 61) (st' := [.int (i32 (0)), .int (i32 (27)), .ref 66]) rfl rfl rfl rfl ?_
      refine jx_ar (pc' := 62) (st' := [.int (i32 (0)), .int (i32 (0)), .int (i32 (27)), .ref 66]) rfl rfl rfl rfl ?_
      refine jx_ar (pc' := 63) (st' := [.int (i32 (0)), .int (i32 (0)), .int (i32 (0)), .int (i32 (27)), .ref 66]) rfl rfl rfl rfl ?_
      refine jx_ar (pc' := 64) (st' := [.int (i32 (0)), .int (i32 (0)), .int (i32 (0)), .int (i32 (0)), .int (i32 (27)), .ref 66]) rfl rfl rfl rfl ?_
      refine jx_vr (pc' := 67) (as := [.int (i32 (27)), .int (i32 (0)), .int (i32 (0)), .int (i32 (0)), .int (i32 (0))]) (st := []) rfl rfl rfl rfl ⟨rfl, rfl, Nat.le_of_ble_eq_true rfl⟩ rfl rfl (c_node_o (dd := d) (hd := by omega) (hW := hW634) (kind := 27) (a := 0) (b := 0) (c := 0) (e := 0) (nd := nd) (e_nd := show G630 31 = nd from ((hF635.1 31 rfl).trans (e_nd))) (ec := ec) (e_ec := show ecn A631 (G630 31) = ec from ec646) (sy := sy) (e_sy := show G630 19 = sy from ((hF635.1 19 rfl).trans (e_sy)))  (h_kind := ⟨(by decide), (by decide)⟩) (h_a := ⟨(by decide), (by decide)⟩) (h_b := ⟨(by decide), (by decide)⟩) (h_c := ⟨(by decide), (by decide)⟩) (h_e := ⟨(by decide), (by decide)⟩)  (p_0 := by omega) (p_1 := by omega) (p_2 := by omega)) (fun o V' hq => ?_)
      obtain ⟨G652, A653, nd2_654, ec2_655, rfl, rfl, hW656, hF657, hQ658, e659, e660, p661, p662, p663, p664, -⟩ := hq
      have hF666 := Fr_tr hF642 hF657 (Fr_sub (by decide)) (Fr_sub (by decide))
      have hP667 := Pf_tr hP643 hQ658 (by omega)
      have hS668 := Fx_f hS644 hF657 (by decide)
      have hV669 := Fx_f hV645 hF657 (by decide)
      have bnd2_654 : (0 : Int) ≤ nd2_654 ∧ nd2_654 ≤ 6999 := e659 ▸ hW656.1 31
      refine .inr ⟨_, rfl, ?_⟩
      refine jx_ld (pc' := 68) (l' := jSto1 [(0, .ref 66), (1, .int (i32 (lv)))] 2 (.int (i32 (nd)))) (st' := []) rfl rfl ?_
      obtain ⟨L670, eL670⟩ : ∃ q, q = jSto1 [(0, .ref 66), (1, .int (i32 (lv)))] 2 (.int (i32 (nd))) := ⟨_, rfl⟩
      rw [← eL670]
      have gL670_0 : jGet L670 0 = some (.ref 66) := eL670 ▸ jg_ne (by decide) (rfl : jGet [(0, .ref 66), (1, .int (i32 (lv)))] 0 = some (.ref 66)) rfl
      have gL670_1 : jGet L670 1 = some (.int (i32 (lv))) := eL670 ▸ jg_ne (by decide) (rfl : jGet [(0, .ref 66), (1, .int (i32 (lv)))] 1 = some (.int (i32 (lv)))) rfl
      have gL670_2 : jGet L670 2 = some (.int (i32 (nd))) := eL670 ▸ jg_eq
      refine jx_ld (pc' := 69) (l' := L670) (st' := [.ref 66]) rfl (jl_aloadn gL670_0) ?_
      refine jr_get (pc' := 72) (i := 34) (v := .ref 84) rfl rfl (by decide) rfl rfl ?_
      refine jx_ld (pc' := 73) (l' := L670) (st' := [.int (i32 (nd)), .ref 84]) rfl (jl_iloadn gL670_2) ?_
      refine jx_ld (pc' := 74) (l' := L670) (st' := [.ref 66, .int (i32 (nd)), .ref 84]) rfl (jl_aloadn gL670_0) ?_
      refine jx_ar (pc' := 76) (st' := [.int (i32 (9)), .ref 66, .int (i32 (nd)), .ref 84]) rfl rfl rfl rfl ?_
      refine jx_ar (pc' := 77) (st' := [.int (i32 (2)), .int (i32 (9)), .ref 66, .int (i32 (nd)), .ref 84]) rfl rfl rfl rfl ?_
      refine jx_vr (pc' := 80) (as := [.int (i32 (9)), .int (i32 (2))]) (st := [.int (i32 (nd)), .ref 84]) rfl rfl rfl rfl ⟨rfl, rfl, Nat.le_of_ble_eq_true rfl⟩ rfl rfl (c_newName (dd := d) (hd := by omega) (hW := hW656) (kind := 9) (many := 2) (sy := sy) (e_sy := show G652 19 = sy from ((hF657.1 19 rfl).trans ((hF635.1 19 rfl).trans (e_sy)))) (na := na) (e_na := show G652 28 = na from ((hF657.1 28 rfl).trans ((hF635.1 28 rfl).trans (e_na)))) (fk := fk) (e_fk := show G652 16 = fk from ((hF657.1 16 rfl).trans ((hF635.1 16 rfl).trans (e_fk))))  (h_kind := ⟨(by decide), (by decide)⟩) (h_many := ⟨(by decide), (by decide)⟩)  (p_0 := by omega) (p_1 := by omega)) (fun o V' hq => ?_)
      obtain ⟨G671, A672, r673, sy2_674, na2_675, fk2_676, yk2_677, rfl, rfl, hW678, hF679, hQ680, b681, e682, e683, e684, e685, q686⟩ := hq
      have hF687 := Fr_tr hF666 hF679 (Fr_sub (by decide)) (Fr_sub (by decide))
      have hP688 := Pf_f hP667 hF679 (by decide)
      have hS689 := Fx_tr hS668 hQ680 (by omega)
      have hV690 := Fx_f hV669 hF679 (by decide)
      have sf691 : ND A672 (nd) (27) (0) (0) (0) (0) (0) (0) := ND_ag (by omega) (Ag_fr hF679 (by decide)) p663
      have sf692 : NdM A672 (nd) (nd + 1) (sy) := NdM_f hF679 (by decide) p664
      have ec693 : ecn A672 (G671 31) = ec2_655 := (ecn_f (hF679.2 15 rfl) (hF679.1 31 rfl)).trans e660
      have bsy2_674 : (0 : Int) ≤ sy2_674 ∧ sy2_674 ≤ 202 := e682 ▸ hW678.1 19
      have bna2_675 : (0 : Int) ≤ na2_675 ∧ na2_675 ≤ 200 := e683 ▸ hW678.1 28
      have bfk2_676 : (0 : Int) ≤ fk2_676 ∧ fk2_676 ≤ 6 := e684 ▸ hW678.1 16
      have byk2_677 : (0 : Int) ≤ yk2_677 ∧ yk2_677 ≤ 14 := e685 ▸ hW678.2 7 _
      refine .inr ⟨_, rfl, ?_⟩
      rcases q686 with ⟨a700, a694, a695, a696, a697, a698, a699⟩ | ⟨rfl, a701, a702, a703⟩
      · have _q : True := trivial
        rw [a700]
        refine jr_st (pc' := 81) (i := 17) (m := 7000) (z := nd) (y := sy) rfl (by decide) rfl (by decide) (by omega) (by omega) rfl ?_
        have hW705 : Wk G671 (uA A672 17 (nd).toNat (sy)) := Wk_a hW678 (show (-2147483648 : Int) ≤ sy by omega) (show sy ≤ (2147483647 : Int) by omega)
        have hF706 := Fr_a (z := sy) (k := 17) (n := (nd).toNat) hF687 (by decide)
        obtain ⟨A704, eA704⟩ : ∃ q, q = uA A672 17 (nd).toNat (sy) := ⟨_, rfl⟩
        rw [← eA704]
        rw [← eA704] at hW705 hF706
        have q707 : A704 17 (nd).toNat = sy := by rw [eA704]; exact uA_eq
        have hP708 : Pf nd A A704 := eA704 ▸ Pf_a hP688 (z := nd) (by omega) (by omega)
        have hS709 : Fx sr (sy) A A704 := eA704 ▸ Fx_n hS689 rfl
        have hV710 : Fx [14] (vi) A A704 := eA704 ▸ Fx_n hV690 rfl
        have sf711 : ND A704 (nd) (27) (sy) (0) (0) (0) (0) (0) := ND_a eA704 sf691
        have sf712 : NdM A704 (nd) (nd + 1) (sy) := NdM_st eA704 (by decide) sf692
        have sf713 : YD A704 (sy) (9) (2) := YD_fx (by omega) (by omega) (Sg_ne (sb := sy + 1) eA704 rfl) a699
        have ec714 : ecn A704 (G671 31) = ec2_655 := (ecn_e ((congrFun eA704 15).trans (uA_ne (by decide)))).trans ec693
        refine jx_ld (pc' := 82) (l' := L670) (st' := [.ref 66]) rfl (jl_aloadn gL670_0) ?_
        refine jx_ar (pc' := 83) (st' := [.int (i32 (1)), .ref 66]) rfl rfl rfl rfl ?_
        refine jx_vr (pc' := 86) (as := [.int (i32 (1))]) (st := []) rfl rfl rfl rfl ⟨rfl, rfl, Nat.le_of_ble_eq_true rfl⟩ rfl rfl (c_need (dd := d) (hd := by omega) (hW := hW705) (g := 1) (ln := ln) (e_ln := show G671 9 = ln from ((hF679.1 9 rfl).trans ((hF657.1 9 rfl).trans ((hF635.1 9 rfl).trans (e_ln))))) (le := le) (e_le := show A704 4 (ln).toNat = le from (congrFun (((congrFun eA704 4).trans (uA_ne (by decide))).trans ((hF679.2 4 rfl).trans ((hF657.2 4 rfl).trans (hF635.2 4 rfl)))) _).trans (e_le)) (at0 := at2_632) (e_at0 := show G671 10 = at2_632 from ((hF679.1 10 rfl).trans ((hF657.1 10 rfl).trans (e636)))) (fk := fk2_676) (e_fk := show G671 16 = fk2_676 from (e684)) (tk0 := tk2_633) (e_tk0 := show G671 11 = tk2_633 from ((hF679.1 11 rfl).trans ((hF657.1 11 rfl).trans (e637))))  (h_g := ⟨(by decide), (by decide)⟩)  (p_0 := by omega)) (fun o V' hq => ?_)
        obtain ⟨G715, A716, at2_717, tk2_718, fk2_719, rfl, rfl, hW720, hF721, e722, e723, e724, p725, p726, q727⟩ := hq
        have hF728 := Fr_tr hF706 hF721 (Fr_sub (by decide)) (Fr_sub (by decide))
        have hP729 := Pf_f hP708 hF721 (by decide)
        have hS730 := Fx_f hS709 hF721 (by decide)
        have hV731 := Fx_f hV710 hF721 (by decide)
        have sf732 : ND A716 (nd) (27) (sy) (0) (0) (0) (0) (0) := ND_ag (by omega) (Ag_fr hF721 (by decide)) sf711
        have sf733 : NdM A716 (nd) (nd + 1) (sy) := NdM_f hF721 (by decide) sf712
        have sf734 : YD A716 (sy) (9) (2) := YD_fx (by omega) (by omega) (Sg_fr (sb := sy + 1) hF721 (by decide)) sf713
        have ec735 : ecn A716 (G715 31) = ec2_655 := (ecn_f (hF721.2 15 rfl) (hF721.1 31 rfl)).trans ec714
        have bat2_717 : (0 : Int) ≤ at2_717 ∧ at2_717 ≤ 3002 := e722 ▸ hW720.1 10
        have ztk2_718 := tz_b tk2_718
        have btk2_718 : (0 : Int) ≤ tk2_718 ∧ tk2_718 ≤ 5 := e723 ▸ hW720.1 11
        have bfk2_719 : (0 : Int) ≤ fk2_719 ∧ fk2_719 ≤ 6 := e724 ▸ hW720.1 16
        refine .inl ⟨rfl, ?_⟩
        rcases q727 with ⟨a736, a737, a738, a739⟩ | ⟨a740, a741, a742, a743⟩
        · have _q : True := trivial
          have z744 := tz_f (tk2_718)
          exact c_readSeq_w_at_86p (X := X) (k := k) (hP := hP) (d := d) (Vs := Vs) (sb := sb) (pb := pb) (hvb := hvb) (c0 := c0) (c1 := c1) (G := G) (A := A) (T := T) (lv := lv) (ln := ln) (li := li) (at0 := at0) (fk := fk) (nd := nd) (sy := sy) (na := na) (vi := vi) (le := le) (op0 := op0) (tk0 := tk0) (ec := ec) (hd := hd) (hW := hW) (e_ln := e_ln) (e_li := e_li) (e_at0 := e_at0) (e_fk := e_fk) (e_nd := e_nd) (e_sy := e_sy) (e_na := e_na) (e_vi := e_vi) (e_le := e_le) (e_op0 := e_op0) (e_tk0 := e_tk0) (e_ec := e_ec) (i_LT := i_LT) (i_SV := i_SV) (i_PQ := i_PQ) (h_lv := h_lv) (p_0 := p_0) (p_1 := p_1) (p_2 := p_2) (p_3 := p_3) (p_4 := p_4) (p_5 := p_5) (p_6 := p_6) (p_7 := p_7) (p_8 := p_8) (p_9 := p_9) (p_10 := p_10) L670 G715 A716 (nd) (at2_717) (tk2_718) (fk2_719) (nd2_654) (op0) (sy2_674) (na2_675) (ec2_655) gL670_0 gL670_1 gL670_2 hW720 hF728 hP729 hS730 hV731 ((e722)) ((e723)) ((e724)) (((hF721.1 31 rfl).trans ((hF679.1 31 rfl).trans (e659)))) (((hF721.1 15 rfl).trans ((hF679.1 15 rfl).trans ((hF657.1 15 rfl).trans ((hF635.1 15 rfl).trans (e_op0)))))) (((hF721.1 19 rfl).trans (e682))) (((hF721.1 28 rfl).trans (e683))) (ec735) (((hF721.1 9 rfl).trans ((hF679.1 9 rfl).trans ((hF657.1 9 rfl).trans ((hF635.1 9 rfl).trans (e_ln)))))) (((hF721.1 29 rfl).trans ((hF679.1 29 rfl).trans ((hF657.1 29 rfl).trans ((hF635.1 29 rfl).trans (e_vi)))))) (by omega) (by omega) (by omega) (by omega) (by omega) (by omega) (by omega) (by omega) (by omega)
        · have _q : True := trivial
          have pz745 : at2_632 + tz tk2_718 ≤ at2_717 := by omega
          have z746 := tz_f (tk2_718)
          exact c_readSeq_w_at_86 (X := X) (k := k) (hP := hP) (d := d) (Vs := Vs) (sb := sb) (pb := pb) (hvb := hvb) (c0 := c0) (c1 := c1) (G := G) (A := A) (T := T) (lv := lv) (ln := ln) (li := li) (at0 := at0) (fk := fk) (nd := nd) (sy := sy) (na := na) (vi := vi) (le := le) (op0 := op0) (tk0 := tk0) (ec := ec) (hd := hd) (hW := hW) (e_ln := e_ln) (e_li := e_li) (e_at0 := e_at0) (e_fk := e_fk) (e_nd := e_nd) (e_sy := e_sy) (e_na := e_na) (e_vi := e_vi) (e_le := e_le) (e_op0 := e_op0) (e_tk0 := e_tk0) (e_ec := e_ec) (i_LT := i_LT) (i_SV := i_SV) (i_PQ := i_PQ) (h_lv := h_lv) (p_0 := p_0) (p_1 := p_1) (p_2 := p_2) (p_3 := p_3) (p_4 := p_4) (p_5 := p_5) (p_6 := p_6) (p_7 := p_7) (p_8 := p_8) (p_9 := p_9) (p_10 := p_10) L670 G715 A716 (nd) (at2_717) (tk2_718) (fk2_719) (nd2_654) (op0) (sy2_674) (na2_675) (sy) (yk2_677) (ec2_655) gL670_0 gL670_1 gL670_2 hW720 hF728 hP729 hS730 hV731 ((e722)) ((e723)) ((e724)) (((hF721.1 31 rfl).trans ((hF679.1 31 rfl).trans (e659)))) (((hF721.1 15 rfl).trans ((hF679.1 15 rfl).trans ((hF657.1 15 rfl).trans ((hF635.1 15 rfl).trans (e_op0)))))) (((hF721.1 19 rfl).trans (e682))) (((hF721.1 28 rfl).trans (e683))) ((congrFun (hF721.2 17 rfl) _).trans (q707)) ((congrFun ((hF721.2 7 rfl).trans ((congrFun eA704 7).trans (uA_ne (by decide)))) _).trans (e685)) (ec735) (((hF721.1 9 rfl).trans ((hF679.1 9 rfl).trans ((hF657.1 9 rfl).trans ((hF635.1 9 rfl).trans (e_ln)))))) (((hF721.1 29 rfl).trans ((hF679.1 29 rfl).trans ((hF657.1 29 rfl).trans ((hF635.1 29 rfl).trans (e_vi)))))) (by omega) (by omega) (by omega) (by omega) (by omega) (by omega) (by omega) (by omega) (by omega) (by omega) (by omega) (by omega) (by omega) (sf732) (by omega) ((NdM_w sf733 (by omega) (by omega) (by omega)))
      · have _q : True := trivial
        refine jr_st (pc' := 81) (i := 17) (m := 7000) (z := nd) (y := 0) rfl (by decide) rfl (by decide) (by omega) (by omega) rfl ?_
        have hW748 : Wk G671 (uA A672 17 (nd).toNat (0)) := Wk_a hW678 (show (-2147483648 : Int) ≤ 0 by omega) (show 0 ≤ (2147483647 : Int) by omega)
        have hF749 := Fr_a (z := 0) (k := 17) (n := (nd).toNat) hF687 (by decide)
        obtain ⟨A747, eA747⟩ : ∃ q, q = uA A672 17 (nd).toNat (0) := ⟨_, rfl⟩
        rw [← eA747]
        rw [← eA747] at hW748 hF749
        have q750 : A747 17 (nd).toNat = 0 := by rw [eA747]; exact uA_eq
        have hP751 : Pf nd A A747 := eA747 ▸ Pf_a hP688 (z := nd) (by omega) (by omega)
        have hS752 : Fx sr (sy) A A747 := eA747 ▸ Fx_n hS689 rfl
        have hV753 : Fx [14] (vi) A A747 := eA747 ▸ Fx_n hV690 rfl
        have sf754 : ND A747 (nd) (27) (0) (0) (0) (0) (0) (0) := ND_a eA747 sf691
        have sf755 : NdM A747 (nd) (nd + 1) (sy) := NdM_st eA747 (by decide) sf692
        have ec756 : ecn A747 (G671 31) = ec2_655 := (ecn_e ((congrFun eA747 15).trans (uA_ne (by decide)))).trans ec693
        refine jx_ld (pc' := 82) (l' := L670) (st' := [.ref 66]) rfl (jl_aloadn gL670_0) ?_
        refine jx_ar (pc' := 83) (st' := [.int (i32 (1)), .ref 66]) rfl rfl rfl rfl ?_
        refine jx_vr (pc' := 86) (as := [.int (i32 (1))]) (st := []) rfl rfl rfl rfl ⟨rfl, rfl, Nat.le_of_ble_eq_true rfl⟩ rfl rfl (c_need (dd := d) (hd := by omega) (hW := hW748) (g := 1) (ln := ln) (e_ln := show G671 9 = ln from ((hF679.1 9 rfl).trans ((hF657.1 9 rfl).trans ((hF635.1 9 rfl).trans (e_ln))))) (le := le) (e_le := show A747 4 (ln).toNat = le from (congrFun (((congrFun eA747 4).trans (uA_ne (by decide))).trans ((hF679.2 4 rfl).trans ((hF657.2 4 rfl).trans (hF635.2 4 rfl)))) _).trans (e_le)) (at0 := at2_632) (e_at0 := show G671 10 = at2_632 from ((hF679.1 10 rfl).trans ((hF657.1 10 rfl).trans (e636)))) (fk := fk2_676) (e_fk := show G671 16 = fk2_676 from (e684)) (tk0 := tk2_633) (e_tk0 := show G671 11 = tk2_633 from ((hF679.1 11 rfl).trans ((hF657.1 11 rfl).trans (e637))))  (h_g := ⟨(by decide), (by decide)⟩)  (p_0 := by omega)) (fun o V' hq => ?_)
        obtain ⟨G757, A758, at2_759, tk2_760, fk2_761, rfl, rfl, hW762, hF763, e764, e765, e766, p767, p768, q769⟩ := hq
        have hF770 := Fr_tr hF749 hF763 (Fr_sub (by decide)) (Fr_sub (by decide))
        have hP771 := Pf_f hP751 hF763 (by decide)
        have hS772 := Fx_f hS752 hF763 (by decide)
        have hV773 := Fx_f hV753 hF763 (by decide)
        have sf774 : ND A758 (nd) (27) (0) (0) (0) (0) (0) (0) := ND_ag (by omega) (Ag_fr hF763 (by decide)) sf754
        have sf775 : NdM A758 (nd) (nd + 1) (sy) := NdM_f hF763 (by decide) sf755
        have ec776 : ecn A758 (G757 31) = ec2_655 := (ecn_f (hF763.2 15 rfl) (hF763.1 31 rfl)).trans ec756
        have bat2_759 : (0 : Int) ≤ at2_759 ∧ at2_759 ≤ 3002 := e764 ▸ hW762.1 10
        have ztk2_760 := tz_b tk2_760
        have btk2_760 : (0 : Int) ≤ tk2_760 ∧ tk2_760 ≤ 5 := e765 ▸ hW762.1 11
        have bfk2_761 : (0 : Int) ≤ fk2_761 ∧ fk2_761 ≤ 6 := e766 ▸ hW762.1 16
        refine .inl ⟨rfl, ?_⟩
        rcases q769 with ⟨a777, a778, a779, a780⟩ | ⟨a781, a782, a783, a784⟩
        · have _q : True := trivial
          have z785 := tz_f (tk2_760)
          exact c_readSeq_w_at_86p (X := X) (k := k) (hP := hP) (d := d) (Vs := Vs) (sb := sb) (pb := pb) (hvb := hvb) (c0 := c0) (c1 := c1) (G := G) (A := A) (T := T) (lv := lv) (ln := ln) (li := li) (at0 := at0) (fk := fk) (nd := nd) (sy := sy) (na := na) (vi := vi) (le := le) (op0 := op0) (tk0 := tk0) (ec := ec) (hd := hd) (hW := hW) (e_ln := e_ln) (e_li := e_li) (e_at0 := e_at0) (e_fk := e_fk) (e_nd := e_nd) (e_sy := e_sy) (e_na := e_na) (e_vi := e_vi) (e_le := e_le) (e_op0 := e_op0) (e_tk0 := e_tk0) (e_ec := e_ec) (i_LT := i_LT) (i_SV := i_SV) (i_PQ := i_PQ) (h_lv := h_lv) (p_0 := p_0) (p_1 := p_1) (p_2 := p_2) (p_3 := p_3) (p_4 := p_4) (p_5 := p_5) (p_6 := p_6) (p_7 := p_7) (p_8 := p_8) (p_9 := p_9) (p_10 := p_10) L670 G757 A758 (nd) (at2_759) (tk2_760) (fk2_761) (nd2_654) (op0) (sy2_674) (na2_675) (ec2_655) gL670_0 gL670_1 gL670_2 hW762 hF770 hP771 hS772 hV773 ((e764)) ((e765)) ((e766)) (((hF763.1 31 rfl).trans ((hF679.1 31 rfl).trans (e659)))) (((hF763.1 15 rfl).trans ((hF679.1 15 rfl).trans ((hF657.1 15 rfl).trans ((hF635.1 15 rfl).trans (e_op0)))))) (((hF763.1 19 rfl).trans (e682))) (((hF763.1 28 rfl).trans (e683))) (ec776) (((hF763.1 9 rfl).trans ((hF679.1 9 rfl).trans ((hF657.1 9 rfl).trans ((hF635.1 9 rfl).trans (e_ln)))))) (((hF763.1 29 rfl).trans ((hF679.1 29 rfl).trans ((hF657.1 29 rfl).trans ((hF635.1 29 rfl).trans (e_vi)))))) (by omega) (by omega) (by omega) (by omega) (by omega) (by omega) (by omega) (by omega) (by omega)
        · have _q : True := trivial
          exfalso
          omega
    · have _q := h651
      refine jx_ld (pc' := 47) (l' := [(0, .ref 66), (1, .int (i32 (lv)))]) (st' := [.ref 66]) rfl (jl_aloadn rfl) ?_
      refine jx_ar (pc' := 48) (st' := [.int (i32 (1)), .ref 66]) rfl rfl rfl rfl ?_
      refine jx_ld (pc' := 49) (l' := [(0, .ref 66), (1, .int (i32 (lv)))]) (st' := [.ref 66, .int (i32 (1)), .ref 66]) rfl (jl_aloadn rfl) ?_
      have b786 : (-3000 : Int) ≤ G630 12 ∧ G630 12 ≤ 3002 := hW634.1 12
      refine jr_get (pc' := 52) (i := 12) (v := .int (i32 (G630 12))) rfl rfl (by decide) rfl rfl ?_
      refine jx_vr (pc' := 55) (as := [.int (i32 (1)), .int (i32 (G630 12))]) (st := []) rfl rfl rfl rfl ⟨rfl, rfl, Nat.le_of_ble_eq_true rfl⟩ rfl rfl (c_fail (dd := d) (hd := by omega) (hW := hW634) (kind := 1) (place := G630 12) (fk := fk) (e_fk := show G630 16 = fk from ((hF635.1 16 rfl).trans (e_fk)))  (h_kind := ⟨(by decide), (by decide)⟩) (h_place := ⟨(Int.le_trans (by decide : (-2147483648 : Int) ≤ -3000) b786.1), (Int.le_trans b786.2 (by decide : (3002 : Int) ≤ 2147483647))⟩)  (p_0 := by omega) (p_1 := by omega)) (fun o V' hq => ?_)
      obtain ⟨G787, A788, fk2_789, rfl, rfl, hW790, hF791, e792, p793, -⟩ := hq
      have hF795 := Fr_tr hF642 hF791 (Fr_sub (by decide)) (Fr_sub (by decide))
      have hP796 := Pf_f hP643 hF791 (by decide)
      have hS797 := Fx_f hS644 hF791 (by decide)
      have hV798 := Fx_f hV645 hF791 (by decide)
      have ec799 : ecn A788 (G787 31) = ec := (ecn_f (hF791.2 15 rfl) (hF791.1 31 rfl)).trans ec646
      have bfk2_789 : (0 : Int) ≤ fk2_789 ∧ fk2_789 ≤ 6 := e792 ▸ hW790.1 16
      refine .inl ⟨rfl, ?_⟩
      refine jx_ar (pc' := 56) (st' := [.int (i32 (0))]) rfl rfl rfl rfl ?_
      refine jx_rt (v := some (.int (i32 (0)))) rfl rfl rfl rfl rfl rfl ?_
      exact ⟨_, _, _, ln, at2_632, fk2_789, nd, sy, na, vi, A 3 (ln).toNat, ec, rfl, rfl, hW790, hF795, hP796, hS797, hV798, by omega, ((hF791.1 9 rfl).trans ((hF635.1 9 rfl).trans (e_ln))), ((hF791.1 10 rfl).trans (e636)), (e792), ((hF791.1 31 rfl).trans ((hF635.1 31 rfl).trans (e_nd))), ((hF791.1 19 rfl).trans ((hF635.1 19 rfl).trans (e_sy))), ((hF791.1 28 rfl).trans ((hF635.1 28 rfl).trans (e_na))), ((hF791.1 29 rfl).trans ((hF635.1 29 rfl).trans (e_vi))), (congrFun ((hF791.2 3 rfl).trans (hF635.2 3 rfl)) _), ec799, by omega, by omega, by omega, by omega, by omega, by omega, by omega, by omega, by omega, by omega, by first | exact Or.inl (⟨by omega, by omega⟩)⟩
  · have _q := h649
    refine jx_ld (pc' := 12) (l' := [(0, .ref 66), (1, .int (i32 (lv)))]) (st' := [.ref 66]) rfl (jl_aloadn rfl) ?_
    refine jx_ar (pc' := 14) (st' := [.int (i32 (26)), .ref 66]) rfl rfl rfl rfl ?_
    refine jx_ar (pc' := 15) (st' := [.int (i32 (0)), .int (i32 (26)), .ref 66]) rfl rfl rfl rfl ?_
    refine jx_ar (pc' := 16) (st' := [.int (i32 (0)), .int (i32 (0)), .int (i32 (26)), .ref 66]) rfl rfl rfl rfl ?_
    refine jx_ar (pc' := 17) (st' := [.int (i32 (0)), .int (i32 (0)), .int (i32 (0)), .int (i32 (26)), .ref 66]) rfl rfl rfl rfl ?_
    refine jx_ar (pc' := 18) (st' := [.int (i32 (0)), .int (i32 (0)), .int (i32 (0)), .int (i32 (0)), .int (i32 (26)), .ref 66]) rfl rfl rfl rfl ?_
    refine jx_vr (pc' := 21) (as := [.int (i32 (26)), .int (i32 (0)), .int (i32 (0)), .int (i32 (0)), .int (i32 (0))]) (st := []) rfl rfl rfl rfl ⟨rfl, rfl, Nat.le_of_ble_eq_true rfl⟩ rfl rfl (c_node_o (dd := d) (hd := by omega) (hW := hW634) (kind := 26) (a := 0) (b := 0) (c := 0) (e := 0) (nd := nd) (e_nd := show G630 31 = nd from ((hF635.1 31 rfl).trans (e_nd))) (ec := ec) (e_ec := show ecn A631 (G630 31) = ec from ec646) (sy := sy) (e_sy := show G630 19 = sy from ((hF635.1 19 rfl).trans (e_sy)))  (h_kind := ⟨(by decide), (by decide)⟩) (h_a := ⟨(by decide), (by decide)⟩) (h_b := ⟨(by decide), (by decide)⟩) (h_c := ⟨(by decide), (by decide)⟩) (h_e := ⟨(by decide), (by decide)⟩)  (p_0 := by omega) (p_1 := by omega) (p_2 := by omega)) (fun o V' hq => ?_)
    obtain ⟨G800, A801, nd2_802, ec2_803, rfl, rfl, hW804, hF805, hQ806, e807, e808, p809, p810, p811, p812, -⟩ := hq
    have hF814 := Fr_tr hF642 hF805 (Fr_sub (by decide)) (Fr_sub (by decide))
    have hP815 := Pf_tr hP643 hQ806 (by omega)
    have hS816 := Fx_f hS644 hF805 (by decide)
    have hV817 := Fx_f hV645 hF805 (by decide)
    have bnd2_802 : (0 : Int) ≤ nd2_802 ∧ nd2_802 ≤ 6999 := e807 ▸ hW804.1 31
    refine .inr ⟨_, rfl, ?_⟩
    refine jx_ld (pc' := 22) (l' := jSto1 [(0, .ref 66), (1, .int (i32 (lv)))] 2 (.int (i32 (nd)))) (st' := []) rfl rfl ?_
    obtain ⟨L818, eL818⟩ : ∃ q, q = jSto1 [(0, .ref 66), (1, .int (i32 (lv)))] 2 (.int (i32 (nd))) := ⟨_, rfl⟩
    rw [← eL818]
    have gL818_0 : jGet L818 0 = some (.ref 66) := eL818 ▸ jg_ne (by decide) (rfl : jGet [(0, .ref 66), (1, .int (i32 (lv)))] 0 = some (.ref 66)) rfl
    have gL818_1 : jGet L818 1 = some (.int (i32 (lv))) := eL818 ▸ jg_ne (by decide) (rfl : jGet [(0, .ref 66), (1, .int (i32 (lv)))] 1 = some (.int (i32 (lv)))) rfl
    have gL818_2 : jGet L818 2 = some (.int (i32 (nd))) := eL818 ▸ jg_eq
    refine jx_ld (pc' := 23) (l' := L818) (st' := [.ref 66]) rfl (jl_aloadn gL818_0) ?_
    refine jx_vr (pc' := 26) (as := []) (st := []) rfl rfl rfl rfl ⟨rfl, rfl, Nat.le_of_ble_eq_true rfl⟩ rfl rfl (c_endLine (dd := d) (hd := by omega) (hW := hW804)  (ln := ln) (e_ln := show G800 9 = ln from ((hF805.1 9 rfl).trans ((hF635.1 9 rfl).trans (e_ln)))) (li := li) (e_li := show G800 3 = li from ((hF805.1 3 rfl).trans ((hF635.1 3 rfl).trans (e_li)))) (fk := fk) (e_fk := show G800 16 = fk from ((hF805.1 16 rfl).trans ((hF635.1 16 rfl).trans (e_fk)))) (tk0 := tk2_633) (e_tk0 := show G800 11 = tk2_633 from ((hF805.1 11 rfl).trans (e637)))    (p_0 := by omega)) (fun o V' hq => ?_)
    obtain ⟨G819, A820, ln2_821, fk2_822, rfl, rfl, hW823, hF824, e825, e826, q827⟩ := hq
    have hF828 := Fr_tr hF814 hF824 (Fr_sub (by decide)) (Fr_sub (by decide))
    have hP829 := Pf_f hP815 hF824 (by decide)
    have hS830 := Fx_f hS816 hF824 (by decide)
    have hV831 := Fx_f hV817 hF824 (by decide)
    have sf832 : ND A820 (nd) (26) (0) (0) (0) (0) (0) (0) := ND_ag (by omega) (Ag_fr hF824 (by decide)) p811
    have sf833 : NdM A820 (nd) (nd + 1) (sy) := NdM_f hF824 (by decide) p812
    have ec834 : ecn A820 (G819 31) = ec2_803 := (ecn_f (hF824.2 15 rfl) (hF824.1 31 rfl)).trans e808
    have bln2_821 : (0 : Int) ≤ ln2_821 ∧ ln2_821 ≤ 3000 := e825 ▸ hW823.1 9
    have bfk2_822 : (0 : Int) ≤ fk2_822 ∧ fk2_822 ≤ 6 := e826 ▸ hW823.1 16
    refine .inl ⟨rfl, ?_⟩
    rcases q827 with ⟨a835, a836, a837, a838, a839⟩ | ⟨a840, a841⟩
    · have _q : True := trivial
      have b842 : (0 : Int) ≤ A 3 (ln2_821).toNat ∧ A 3 (ln2_821).toNat ≤ 3000 := hW.2 3 _
      have lt843 : ln2_821 < li → le < A 3 (ln2_821).toNat := fun hh => LT_nx (LT_ext (((hF824.1 3 rfl).trans ((hF805.1 3 rfl).trans (hF635.1 3 rfl)))) (((hF824.2 3 rfl).trans ((hF805.2 3 rfl).trans (hF635.2 3 rfl)))) (((hF824.2 4 rfl).trans ((hF805.2 4 rfl).trans (hF635.2 4 rfl)))) i_LT) (show G819 3 = li from ((hF824.1 3 rfl).trans ((hF805.1 3 rfl).trans ((hF635.1 3 rfl).trans (e_li))))) (show A820 4 (ln).toNat = le from (congrFun ((hF824.2 4 rfl).trans ((hF805.2 4 rfl).trans (hF635.2 4 rfl))) _).trans (e_le)) (show A820 3 (ln2_821).toNat = A 3 (ln2_821).toNat from (congrFun ((hF824.2 3 rfl).trans ((hF805.2 3 rfl).trans (hF635.2 3 rfl))) _)) (show ln2_821 = ln + 1 by omega) (by omega) hh
      refine jx_ld (pc' := 27) (l' := L818) (st' := [.ref 66]) rfl (jl_aloadn gL818_0) ?_
      refine jx_ld (pc' := 28) (l' := L818) (st' := [.int (i32 (nd)), .ref 66]) rfl (jl_iloadn gL818_2) ?_
      refine jx_ld (pc' := 29) (l' := L818) (st' := [.int (i32 (lv)), .int (i32 (nd)), .ref 66]) rfl (jl_iloadn gL818_1) ?_
      refine jx_ar (pc' := 30) (st' := [.int (i32 (0)), .int (i32 (lv)), .int (i32 (nd)), .ref 66]) rfl rfl rfl rfl ?_
      refine jx_hp (pc' := 33) (st' := [.int (i32 (100000)), .int (i32 (0)), .int (i32 (lv)), .int (i32 (nd)), .ref 66]) rfl rfl rfl rfl rfl rfl ?_
      refine jx_vr (pc' := 36) (as := [.int (i32 (nd)), .int (i32 (lv)), .int (i32 (0)), .int (i32 (100000))]) (st := []) rfl rfl rfl rfl ⟨rfl, rfl, Nat.le_of_ble_eq_true rfl⟩ rfl rfl (c_readChildren_w (dd := d) (hP := hP) (zz := nd) (hd := by omega) (hW := hW823) (n := nd) (lv := lv) (least := 0) (mo := 100000) (kk := 26) (aa := 0) (bb := 0) (cc := 0) (de := 0) (xx := 0) (ln := ln2_821) (e_ln := show G819 9 = ln2_821 from (e825)) (li := li) (e_li := show G819 3 = li from ((hF824.1 3 rfl).trans ((hF805.1 3 rfl).trans ((hF635.1 3 rfl).trans (e_li))))) (at0 := at2_632) (e_at0 := show G819 10 = at2_632 from ((hF824.1 10 rfl).trans ((hF805.1 10 rfl).trans (e636)))) (fk := fk2_822) (e_fk := show G819 16 = fk2_822 from (e826)) (nd := nd2_802) (e_nd := show G819 31 = nd2_802 from ((hF824.1 31 rfl).trans (e807))) (sy := sy) (e_sy := show G819 19 = sy from ((hF824.1 19 rfl).trans ((hF805.1 19 rfl).trans ((hF635.1 19 rfl).trans (e_sy))))) (na := na) (e_na := show G819 28 = na from ((hF824.1 28 rfl).trans ((hF805.1 28 rfl).trans ((hF635.1 28 rfl).trans (e_na))))) (vi := vi) (e_vi := show G819 29 = vi from ((hF824.1 29 rfl).trans ((hF805.1 29 rfl).trans ((hF635.1 29 rfl).trans (e_vi))))) (lf := A 3 (ln2_821).toNat) (e_lf := show A820 3 (ln2_821).toNat = A 3 (ln2_821).toNat from (congrFun ((hF824.2 3 rfl).trans ((hF805.2 3 rfl).trans (hF635.2 3 rfl))) _)) (ec := ec2_803) (e_ec := show ecn A820 (G819 31) = ec2_803 from ec834) (i_LT := (LT_ext (((hF824.1 3 rfl).trans ((hF805.1 3 rfl).trans (hF635.1 3 rfl)))) (((hF824.2 3 rfl).trans ((hF805.2 3 rfl).trans (hF635.2 3 rfl)))) (((hF824.2 4 rfl).trans ((hF805.2 4 rfl).trans (hF635.2 4 rfl)))) i_LT)) (i_SV := (SV_fx i_SV e_vi (show G819 29 = vi from ((hF824.1 29 rfl).trans ((hF805.1 29 rfl).trans ((hF635.1 29 rfl).trans (e_vi))))) (by omega) hV831)) (i_PQ := (PQ_fx i_PQ hS830 (by omega) (hF828.2 29 rfl) (hF828.2 30 rfl))) (hvb := hvb) (h_n := ⟨(Int.le_trans (by decide : (-2147483648 : Int) ≤ 0) b_nd.1), (Int.le_trans b_nd.2 (by decide : (6999 : Int) ≤ 2147483647))⟩) (h_lv := ⟨(Int.le_trans (by decide : (-2147483648 : Int) ≤ -2147483648) h_lv.1), (Int.le_trans h_lv.2 (by decide : (2147483647 : Int) ≤ 2147483647))⟩) (h_least := ⟨(by decide), (by decide)⟩) (h_mo := ⟨(by decide), (by decide)⟩)  (p_0 := by omega) (p_1 := by omega) (p_2 := by omega) (p_3 := by omega) (p_4 := by omega) (p_5 := by omega) (p_6 := by omega) (p_7 := by omega) (p_8 := by omega) (p_9 := by omega) (p_10 := by omega) (p_11 := by omega) (p_12 := by omega) (p_13 := by omega) (p_14 := by omega) (p_15 := sf832) (p_16 := (NdO_w (NdO_m (r := nd) sf833) (by omega) (by omega) (by omega)))) (fun o V' hq => ?_)
      obtain ⟨G844, A845, ln2_846, at2_847, fk2_848, nd2_849, sy2_850, na2_851, vi2_852, lf2_853, mm_854, f2_855, ec2_856, rfl, rfl, hW857, hF858, hQ859, hQ860, hQ861, hQ862, e863, e864, e865, e866, e867, e868, e869, e870, e871, e872, e873, p874, p875, p876, p877, p878, p879, p880, q881⟩ := hq
      have hF882 := Fr_tr hF828 hF858 (Fr_sub (by decide)) (Fr_sub (by decide))
      have hP883 := Pf_tr hP829 hQ859 (by omega)
      have hS884 := Fx_tr hS830 hQ861 (by omega)
      have hV885 := Fx_tr hV831 hQ862 (by omega)
      have sf886 : NdM A845 (nd + 1) (nd + 1) (sy) := NdM_px hQ860 (by omega) (by omega) (by omega) (NdM_w (lo := nd + 1) (hi := nd + 1) (sy := sy) sf833 (by omega) (by omega) (by omega))
      have bln2_846 : (0 : Int) ≤ ln2_846 ∧ ln2_846 ≤ 3000 := e863 ▸ hW857.1 9
      have bat2_847 : (0 : Int) ≤ at2_847 ∧ at2_847 ≤ 3002 := e864 ▸ hW857.1 10
      have bfk2_848 : (0 : Int) ≤ fk2_848 ∧ fk2_848 ≤ 6 := e865 ▸ hW857.1 16
      have bnd2_849 : (0 : Int) ≤ nd2_849 ∧ nd2_849 ≤ 6999 := e866 ▸ hW857.1 31
      have bsy2_850 : (0 : Int) ≤ sy2_850 ∧ sy2_850 ≤ 202 := e867 ▸ hW857.1 19
      have bna2_851 : (0 : Int) ≤ na2_851 ∧ na2_851 ≤ 200 := e868 ▸ hW857.1 28
      have bvi2_852 : (0 : Int) ≤ vi2_852 ∧ vi2_852 ≤ 202 := e869 ▸ hW857.1 29
      have blf2_853 : (0 : Int) ≤ lf2_853 ∧ lf2_853 ≤ 3000 := e870 ▸ hW857.2 3 _
      have bmm_854 : (-2147483648 : Int) ≤ mm_854 ∧ mm_854 ≤ 2147483647 := e871 ▸ hW857.2 18 _
      have bf2_855 : (-2147483648 : Int) ≤ f2_855 ∧ f2_855 ≤ 2147483647 := e872 ▸ hW857.2 21 _
      refine .inl ⟨rfl, ?_⟩
      rcases q881 with ⟨a887, a888⟩ | ⟨a889, a890, a891, a892, a893, a894, a895, a896, a897, a898⟩
      · have _q : True := trivial
        refine jx_ld (pc' := 37) (l' := L818) (st' := [.int (i32 (nd))]) rfl (jl_iloadn gL818_2) ?_
        refine jx_rt (v := some (.int (i32 (nd)))) rfl rfl rfl rfl rfl rfl ?_
        exact ⟨_, _, _, ln2_846, at2_847, fk2_848, nd2_849, sy2_850, na2_851, vi2_852, lf2_853, ec2_856, rfl, rfl, hW857, hF882, hP883, hS884, hV885, by omega, (e863), (e864), (e865), (e866), (e867), (e868), (e869), (e870), e873, by omega, by omega, by omega, by omega, by omega, by omega, by omega, by omega, by omega, by omega, by first | exact Or.inl (⟨by omega, by omega⟩)⟩
      · have _q : True := trivial
        refine jx_ld (pc' := 37) (l' := L818) (st' := [.int (i32 (nd))]) rfl (jl_iloadn gL818_2) ?_
        refine jx_rt (v := some (.int (i32 (nd)))) rfl rfl rfl rfl rfl rfl ?_
        exact ⟨_, _, _, ln2_846, at2_847, fk2_848, nd2_849, sy2_850, na2_851, vi2_852, lf2_853, ec2_856, rfl, rfl, hW857, hF882, hP883, hS884, hV885, by omega, (e863), (e864), (e865), (e866), (e867), (e868), (e869), (e870), e873, by omega, by omega, by omega, by omega, by omega, by omega, by omega, by omega, by omega, by omega, by first | exact Or.inr ((⟨by omega, by omega, by omega, by omega, by omega, by omega, by omega, (wS_seq (many := mm_854) a894 (RL_eq a895 (by omega) (by omega) (by omega) (by omega) (by omega))), (NX_nd a894), by omega, (NdM_w (NdM_app (sy := sy) (NdM_k a897 a894.1 (by omega) (by omega)) (NdM_app (sy := sy) sf886 a898 (by omega) (by omega) (by omega)) (by omega) (by omega) (by omega)) (by omega) (by omega) (by omega))⟩))⟩
    · have _q : True := trivial
      refine jx_ld (pc' := 27) (l' := L818) (st' := [.ref 66]) rfl (jl_aloadn gL818_0) ?_
      refine jx_ld (pc' := 28) (l' := L818) (st' := [.int (i32 (nd)), .ref 66]) rfl (jl_iloadn gL818_2) ?_
      refine jx_ld (pc' := 29) (l' := L818) (st' := [.int (i32 (lv)), .int (i32 (nd)), .ref 66]) rfl (jl_iloadn gL818_1) ?_
      refine jx_ar (pc' := 30) (st' := [.int (i32 (0)), .int (i32 (lv)), .int (i32 (nd)), .ref 66]) rfl rfl rfl rfl ?_
      refine jx_hp (pc' := 33) (st' := [.int (i32 (100000)), .int (i32 (0)), .int (i32 (lv)), .int (i32 (nd)), .ref 66]) rfl rfl rfl rfl rfl rfl ?_
      refine jx_vr (pc' := 36) (as := [.int (i32 (nd)), .int (i32 (lv)), .int (i32 (0)), .int (i32 (100000))]) (st := []) rfl rfl rfl rfl ⟨rfl, rfl, Nat.le_of_ble_eq_true rfl⟩ rfl rfl (c_readChildren_f (dd := d) (zz := nd) (hd := by omega) (hW := hW823) (n := nd) (lv := lv) (least := 0) (mo := 100000) (fk := fk2_822) (e_fk := show G819 16 = fk2_822 from (e826))  (h_n := ⟨(Int.le_trans (by decide : (-2147483648 : Int) ≤ 0) b_nd.1), (Int.le_trans b_nd.2 (by decide : (6999 : Int) ≤ 2147483647))⟩) (h_lv := ⟨(Int.le_trans (by decide : (-2147483648 : Int) ≤ -2147483648) h_lv.1), (Int.le_trans h_lv.2 (by decide : (2147483647 : Int) ≤ 2147483647))⟩) (h_least := ⟨(by decide), (by decide)⟩) (h_mo := ⟨(by decide), (by decide)⟩)  (p_0 := by omega) (p_1 := by omega) (p_2 := by omega) (p_3 := by omega)) (fun o V' hq => ?_)
      obtain ⟨G899, A900, fk2_901, rfl, rfl, hW902, hF903, hQ904, e905, p906, -⟩ := hq
      have hF908 := Fr_tr hF828 hF903 (Fr_sub (by decide)) (Fr_sub (by decide))
      have hP909 := Pf_tr hP829 hQ904 (by omega)
      have hS910 := Fx_f hS830 hF903 (by decide)
      have hV911 := Fx_f hV831 hF903 (by decide)
      have sf912 : NdM A900 (nd) (nd + 1) (sy) := NdM_f hF903 (by decide) sf833
      have ec913 : ecn A900 (G899 31) = ec2_803 := (ecn_f (hF903.2 15 rfl) (hF903.1 31 rfl)).trans ec834
      have bfk2_901 : (0 : Int) ≤ fk2_901 ∧ fk2_901 ≤ 6 := e905 ▸ hW902.1 16
      refine .inl ⟨rfl, ?_⟩
      refine jx_ld (pc' := 37) (l' := L818) (st' := [.int (i32 (nd))]) rfl (jl_iloadn gL818_2) ?_
      refine jx_rt (v := some (.int (i32 (nd)))) rfl rfl rfl rfl rfl rfl ?_
      exact ⟨_, _, _, ln2_821, at2_632, fk2_901, nd2_802, sy, na, vi, A 3 (ln2_821).toNat, ec2_803, rfl, rfl, hW902, hF908, hP909, hS910, hV911, by omega, ((hF903.1 9 rfl).trans (e825)), ((hF903.1 10 rfl).trans ((hF824.1 10 rfl).trans ((hF805.1 10 rfl).trans (e636)))), (e905), ((hF903.1 31 rfl).trans ((hF824.1 31 rfl).trans (e807))), ((hF903.1 19 rfl).trans ((hF824.1 19 rfl).trans ((hF805.1 19 rfl).trans ((hF635.1 19 rfl).trans (e_sy))))), ((hF903.1 28 rfl).trans ((hF824.1 28 rfl).trans ((hF805.1 28 rfl).trans ((hF635.1 28 rfl).trans (e_na))))), ((hF903.1 29 rfl).trans ((hF824.1 29 rfl).trans ((hF805.1 29 rfl).trans ((hF635.1 29 rfl).trans (e_vi))))), (congrFun ((hF903.2 3 rfl).trans ((hF824.2 3 rfl).trans ((hF805.2 3 rfl).trans (hF635.2 3 rfl)))) _), ec913, by omega, by omega, by omega, by omega, by omega, by omega, by omega, by omega, by omega, by omega, by first | exact Or.inl (⟨by omega, by omega⟩)⟩
set_option maxRecDepth 20000 in
set_option maxHeartbeats 4000000 in
theorem c_readPar_w_at_132p {X : jX} {k : Nat} (hP : RPw X k) {d : Nat} {Vs : Nat → Prop} {sb pb : Int} (hvb : VB Vs sb) {c0 c1 : jC} {G : Nat → Int} {A : Nat → Nat → Int} {T : jH} {lv : Int} {ln li at0 fk nd sy na vi le op0 tk0 ec : Int} (hd : 8 * k + 82 ≤ d + 1) (hW : Wk G A) (e_ln : G 9 = ln) (e_li : G 3 = li) (e_at0 : G 10 = at0) (e_fk : G 16 = fk) (e_nd : G 31 = nd) (e_sy : G 19 = sy) (e_na : G 28 = na) (e_vi : G 29 = vi) (e_le : A 4 (ln).toNat = le) (e_op0 : G 15 = op0) (e_tk0 : G 11 = tk0) (e_ec : ecn A (G 31) = ec) (i_LT : LT G A) (i_SV : SV Vs sb G A) (i_PQ : PQ Vs sb pb G A) (h_lv : (-2147483648 : Int) ≤ lv ∧ lv ≤ 2147483647) (p_0 : 0 ≤ lv ∧ lv ≤ 15) (p_1 : 18 - lv ≤ ((k + 1 : Nat) : Int)) (p_2 : fk = 0) (p_3 : ln < li) (p_4 : at0 ≤ le) (p_5 : op0 = 0) (p_6 : nd ≤ 2 * at0 - tz tk0 + 30) (p_7 : sy ≤ na + 2) (p_8 : vi ≤ sy) (p_9 : sb = sy) (p_10 : 1 ≤ tk0) : ∀ (L : jL) (Gx : Nat → Int) (Ax : Nat → Nat → Int) (n at1 tk1 fk1 nd1 op1 sy1 na1 ec1 : Int), jGet L 0 = some (.ref 66) → jGet L 1 = some (.int (i32 (lv))) → jGet L 2 = some (.int (i32 n)) → Wk Gx Ax → Fr [9, 10, 11, 12, 13, 14, 15, 16, 17, 18, 19, 28, 29, 31] [6, 7, 8, 9, 10, 11, 12, 14, 15, 16, 17, 18, 19, 20, 21, 22, 23, 24, 28] G A Gx Ax → Pf nd A Ax → Fx sr (sy) A Ax → Fx [14] (vi) A Ax → Gx 10 = at1 → Gx 11 = tk1 → Gx 16 = fk1 → Gx 31 = nd1 → Gx 15 = op1 → Gx 19 = sy1 → Gx 28 = na1 → ecn Ax (Gx 31) = ec1 → Gx 9 = ln → Gx 29 = vi → ((-2147483648 : Int) ≤ n ∧ n ≤ 2147483647) → (1 ≤ fk1) → (at0 ≤ at1) → (at1 ≤ le) → (nd ≤ n ∧ n ≤ 6998 ∧ n < nd1) → (sy ≤ sy1) → (sy1 ≤ na1 + 2) → (0 ≤ op1 ∧ op1 ≤ 9) → (nd1 - nd ≤ 2 * at1 - 2 * at0 + 8) → wj X d jm299 (132, L, [], rV c0 c1 Gx Ax T) (fun o V' => ∃ (G' : Nat → Int) (A' : Nat → Nat → Int) (r : Int) (ln2 : Int) (at2 : Int) (fk2 : Int) (nd2 : Int) (sy2 : Int) (na2 : Int) (vi2 : Int) (lf2 : Int) (ec2 : Int), V' = rV c0 c1 G' A' T ∧ o = .inl (some (.int (i32 r))) ∧ Wk G' A' ∧ Fr [9, 10, 11, 12, 13, 14, 15, 16, 17, 18, 19, 28, 29, 31] [6, 7, 8, 9, 10, 11, 12, 14, 15, 16, 17, 18, 19, 20, 21, 22, 23, 24, 28] G A G' A' ∧ Pf nd A A' ∧ Fx sr (sy) A A' ∧ Fx [14] (vi) A A' ∧ ((-2147483648 : Int) ≤ r ∧ r ≤ 2147483647) ∧ G' 9 = ln2 ∧ G' 10 = at2 ∧ G' 16 = fk2 ∧ G' 31 = nd2 ∧ G' 19 = sy2 ∧ G' 28 = na2 ∧ G' 29 = vi2 ∧ A' 3 (ln2).toNat = lf2 ∧ ecn A' (G' 31) = ec2 ∧ (at0 ≤ at2) ∧ (nd ≤ nd2) ∧ (sy ≤ sy2) ∧ (sy2 ≤ na2 + 2) ∧ (vi ≤ vi2) ∧ (vi2 ≤ vi + 1) ∧ (0 ≤ r) ∧ (r ≤ 6999) ∧ (ln ≤ ln2) ∧ (ln2 ≤ li) ∧ (((1 ≤ fk2) ∧ (nd2 - nd ≤ 2 * at2 - (2 * at0 - tz tk0) + 14)) ∨ ((fk2 = 0) ∧ (vi2 = vi) ∧ (ln < ln2) ∧ (nd2 - nd ≤ 2 * at2 - (2 * at0 - tz tk0)) ∧ (at2 < lf2 ∨ li ≤ ln2) ∧ (nd ≤ r) ∧ (r < nd2) ∧ (wSt A' (sy2) pb (wP A' (sy2) pb (k)) (Vs) (r) (nd) (nd2) (sy) (sy2)) ∧ (NX A' (r)) ∧ (nd2 - nd + 5 * (ec2 - ec) ≤ 2 * at2 - (2 * at0 - tz tk0)) ∧ (NdO A' (nd) (nd2) (sy) (r))))) := by
  have hF0 : Fr [9, 10, 11, 12, 13, 14, 15, 16, 17, 18, 19, 28, 29, 31] [6, 7, 8, 9, 10, 11, 12, 14, 15, 16, 17, 18, 19, 20, 21, 22, 23, 24, 28] G A G A := Fr_rf
  have hP0 : Pf nd A A := Pf_rf
  have hS0 : Fx sr (sy) A A := Fx_rf
  have hV0 : Fx [14] (vi) A A := Fx_rf
  have b_ln : (0 : Int) ≤ ln ∧ ln ≤ 3000 := e_ln ▸ hW.1 9
  have b_li : (0 : Int) ≤ li ∧ li ≤ 3000 := e_li ▸ hW.1 3
  have b_at0 : (0 : Int) ≤ at0 ∧ at0 ≤ 3002 := e_at0 ▸ hW.1 10
  have b_fk : (0 : Int) ≤ fk ∧ fk ≤ 6 := e_fk ▸ hW.1 16
  have b_nd : (0 : Int) ≤ nd ∧ nd ≤ 6999 := e_nd ▸ hW.1 31
  have b_sy : (0 : Int) ≤ sy ∧ sy ≤ 202 := e_sy ▸ hW.1 19
  have b_na : (0 : Int) ≤ na ∧ na ≤ 200 := e_na ▸ hW.1 28
  have b_vi : (0 : Int) ≤ vi ∧ vi ≤ 202 := e_vi ▸ hW.1 29
  have b_le : (0 : Int) ≤ le ∧ le ≤ 3000 := e_le ▸ hW.2 4 _
  have b_op0 : (-2147483648 : Int) ≤ op0 ∧ op0 ≤ 2147483647 := e_op0 ▸ hW.1 15
  have z_tk0 := tz_f tk0
  have b_tk0 : (0 : Int) ≤ tk0 ∧ tk0 ≤ 5 := e_tk0 ▸ hW.1 11
  intro L Gx Ax n at1 tk1 fk1 nd1 op1 sy1 na1 ec1 gL_0 gL_1 gL_2 hWx hFx hPx hSx hVx ex_at1 ex_tk1 ex_fk1 ex_nd1 ex_op1 ex_sy1 ex_na1 ex_ec1 fx_9 fx_29 rx_n iv_0 iv_1 iv_2 iv_3 iv_4 iv_5 iv_6 iv_7
  have b_at1 : (0 : Int) ≤ at1 ∧ at1 ≤ 3002 := ex_at1 ▸ hWx.1 10
  have z_tk1 := tz_f tk1
  have b_tk1 : (0 : Int) ≤ tk1 ∧ tk1 ≤ 5 := ex_tk1 ▸ hWx.1 11
  have b_fk1 : (0 : Int) ≤ fk1 ∧ fk1 ≤ 6 := ex_fk1 ▸ hWx.1 16
  have b_nd1 : (0 : Int) ≤ nd1 ∧ nd1 ≤ 6999 := ex_nd1 ▸ hWx.1 31
  have b_op1 : (-2147483648 : Int) ≤ op1 ∧ op1 ≤ 2147483647 := ex_op1 ▸ hWx.1 15
  have b_sy1 : (0 : Int) ≤ sy1 ∧ sy1 ≤ 202 := ex_sy1 ▸ hWx.1 19
  have b_na1 : (0 : Int) ≤ na1 ∧ na1 ≤ 200 := ex_na1 ▸ hWx.1 28
  refine jx_ld (pc' := 133) (l' := L) (st' := [.ref 66]) rfl (jl_aloadn gL_0) ?_
  refine jx_vr (pc' := 136) (as := []) (st := []) rfl rfl rfl rfl ⟨rfl, rfl, Nat.le_of_ble_eq_true rfl⟩ rfl rfl (c_endLine (dd := d) (hd := by omega) (hW := hWx)  (ln := ln) (e_ln := show Gx 9 = ln from (fx_9)) (li := li) (e_li := show Gx 3 = li from ((hFx.1 3 rfl).trans (e_li))) (fk := fk1) (e_fk := show Gx 16 = fk1 from (ex_fk1)) (tk0 := tk1) (e_tk0 := show Gx 11 = tk1 from (ex_tk1))    (p_0 := by omega)) (fun o V' hq => ?_)
  obtain ⟨G1, A2, ln2_3, fk2_4, rfl, rfl, hW5, hF6, e7, e8, q9⟩ := hq
  have hF10 := Fr_tr hFx hF6 (Fr_sub (by decide)) (Fr_sub (by decide))
  have hP11 := Pf_f hPx hF6 (by decide)
  have hS12 := Fx_f hSx hF6 (by decide)
  have hV13 := Fx_f hVx hF6 (by decide)
  have ec14 : ecn A2 (G1 31) = ec1 := (ecn_f (hF6.2 15 rfl) (hF6.1 31 rfl)).trans ex_ec1
  have bln2_3 : (0 : Int) ≤ ln2_3 ∧ ln2_3 ≤ 3000 := e7 ▸ hW5.1 9
  have bfk2_4 : (0 : Int) ≤ fk2_4 ∧ fk2_4 ≤ 6 := e8 ▸ hW5.1 16
  refine .inl ⟨rfl, ?_⟩
  rcases q9 with ⟨a15, a16, a17, a18, a19⟩ | ⟨a20, a21⟩
  · have _q : True := trivial
    exfalso
    omega
  · have _q : True := trivial
    refine jx_ld (pc' := 137) (l' := L) (st' := [.ref 66]) rfl (jl_aloadn gL_0) ?_
    refine jx_ld (pc' := 138) (l' := L) (st' := [.int (i32 (n)), .ref 66]) rfl (jl_iloadn gL_2) ?_
    refine jx_ld (pc' := 139) (l' := L) (st' := [.int (i32 (lv)), .int (i32 (n)), .ref 66]) rfl (jl_iloadn gL_1) ?_
    refine jx_vr (pc' := 142) (as := [.int (i32 (n)), .int (i32 (lv))]) (st := []) rfl rfl rfl rfl ⟨rfl, rfl, Nat.le_of_ble_eq_true rfl⟩ rfl rfl (c_readIndexed_f (dd := d) (hd := by omega) (hW := hW5) (n := n) (lv := lv) (fk := fk2_4) (e_fk := show G1 16 = fk2_4 from (e8))  (h_n := ⟨(Int.le_trans (by decide : (-2147483648 : Int) ≤ -2147483648) rx_n.1), (Int.le_trans rx_n.2 (by decide : (2147483647 : Int) ≤ 2147483647))⟩) (h_lv := ⟨(Int.le_trans (by decide : (-2147483648 : Int) ≤ -2147483648) h_lv.1), (Int.le_trans h_lv.2 (by decide : (2147483647 : Int) ≤ 2147483647))⟩)  (p_0 := by omega)) (fun o V' hq => ?_)
    obtain ⟨r22, rfl, rfl, b23, p24, -⟩ := hq
    refine .inr ⟨_, rfl, ?_⟩
    refine jx_rt (v := some (.int (i32 (r22)))) rfl rfl rfl rfl rfl rfl ?_
    exact ⟨_, _, _, ln2_3, at1, fk2_4, nd1, sy1, na1, vi, A 3 (ln2_3).toNat, ec1, rfl, rfl, hW5, hF10, hP11, hS12, hV13, by omega, (e7), ((hF6.1 10 rfl).trans (ex_at1)), (e8), ((hF6.1 31 rfl).trans (ex_nd1)), ((hF6.1 19 rfl).trans (ex_sy1)), ((hF6.1 28 rfl).trans (ex_na1)), ((hF6.1 29 rfl).trans (fx_29)), (congrFun ((hF6.2 3 rfl).trans (hFx.2 3 rfl)) _), ec14, by omega, by omega, by omega, by omega, by omega, by omega, by omega, by omega, by omega, by omega, by first | exact Or.inl (⟨by omega, by omega⟩)⟩
set_option maxRecDepth 20000 in
set_option maxHeartbeats 4000000 in
theorem c_readPar_w_at_119p {X : jX} {k : Nat} (hP : RPw X k) {d : Nat} {Vs : Nat → Prop} {sb pb : Int} (hvb : VB Vs sb) {c0 c1 : jC} {G : Nat → Int} {A : Nat → Nat → Int} {T : jH} {lv : Int} {ln li at0 fk nd sy na vi le op0 tk0 ec : Int} (hd : 8 * k + 82 ≤ d + 1) (hW : Wk G A) (e_ln : G 9 = ln) (e_li : G 3 = li) (e_at0 : G 10 = at0) (e_fk : G 16 = fk) (e_nd : G 31 = nd) (e_sy : G 19 = sy) (e_na : G 28 = na) (e_vi : G 29 = vi) (e_le : A 4 (ln).toNat = le) (e_op0 : G 15 = op0) (e_tk0 : G 11 = tk0) (e_ec : ecn A (G 31) = ec) (i_LT : LT G A) (i_SV : SV Vs sb G A) (i_PQ : PQ Vs sb pb G A) (h_lv : (-2147483648 : Int) ≤ lv ∧ lv ≤ 2147483647) (p_0 : 0 ≤ lv ∧ lv ≤ 15) (p_1 : 18 - lv ≤ ((k + 1 : Nat) : Int)) (p_2 : fk = 0) (p_3 : ln < li) (p_4 : at0 ≤ le) (p_5 : op0 = 0) (p_6 : nd ≤ 2 * at0 - tz tk0 + 30) (p_7 : sy ≤ na + 2) (p_8 : vi ≤ sy) (p_9 : sb = sy) (p_10 : 1 ≤ tk0) : ∀ (L : jL) (Gx : Nat → Int) (Ax : Nat → Nat → Int) (n at1 tk1 fk1 nd1 op1 sy1 na1 ec1 : Int), jGet L 0 = some (.ref 66) → jGet L 1 = some (.int (i32 (lv))) → jGet L 2 = some (.int (i32 n)) → Wk Gx Ax → Fr [9, 10, 11, 12, 13, 14, 15, 16, 17, 18, 19, 28, 29, 31] [6, 7, 8, 9, 10, 11, 12, 14, 15, 16, 17, 18, 19, 20, 21, 22, 23, 24, 28] G A Gx Ax → Pf nd A Ax → Fx sr (sy) A Ax → Fx [14] (vi) A Ax → Gx 10 = at1 → Gx 11 = tk1 → Gx 16 = fk1 → Gx 31 = nd1 → Gx 15 = op1 → Gx 19 = sy1 → Gx 28 = na1 → ecn Ax (Gx 31) = ec1 → Gx 9 = ln → Gx 29 = vi → ((-2147483648 : Int) ≤ n ∧ n ≤ 2147483647) → (1 ≤ fk1) → (at0 ≤ at1) → (at1 ≤ le) → (nd ≤ n ∧ n ≤ 6998 ∧ n < nd1) → (sy ≤ sy1) → (sy1 ≤ na1 + 2) → (0 ≤ op1 ∧ op1 ≤ 9) → (nd1 - nd ≤ 2 * at1 - 2 * at0 + 8) → wj X d jm299 (119, L, [], rV c0 c1 Gx Ax T) (fun o V' => ∃ (G' : Nat → Int) (A' : Nat → Nat → Int) (r : Int) (ln2 : Int) (at2 : Int) (fk2 : Int) (nd2 : Int) (sy2 : Int) (na2 : Int) (vi2 : Int) (lf2 : Int) (ec2 : Int), V' = rV c0 c1 G' A' T ∧ o = .inl (some (.int (i32 r))) ∧ Wk G' A' ∧ Fr [9, 10, 11, 12, 13, 14, 15, 16, 17, 18, 19, 28, 29, 31] [6, 7, 8, 9, 10, 11, 12, 14, 15, 16, 17, 18, 19, 20, 21, 22, 23, 24, 28] G A G' A' ∧ Pf nd A A' ∧ Fx sr (sy) A A' ∧ Fx [14] (vi) A A' ∧ ((-2147483648 : Int) ≤ r ∧ r ≤ 2147483647) ∧ G' 9 = ln2 ∧ G' 10 = at2 ∧ G' 16 = fk2 ∧ G' 31 = nd2 ∧ G' 19 = sy2 ∧ G' 28 = na2 ∧ G' 29 = vi2 ∧ A' 3 (ln2).toNat = lf2 ∧ ecn A' (G' 31) = ec2 ∧ (at0 ≤ at2) ∧ (nd ≤ nd2) ∧ (sy ≤ sy2) ∧ (sy2 ≤ na2 + 2) ∧ (vi ≤ vi2) ∧ (vi2 ≤ vi + 1) ∧ (0 ≤ r) ∧ (r ≤ 6999) ∧ (ln ≤ ln2) ∧ (ln2 ≤ li) ∧ (((1 ≤ fk2) ∧ (nd2 - nd ≤ 2 * at2 - (2 * at0 - tz tk0) + 14)) ∨ ((fk2 = 0) ∧ (vi2 = vi) ∧ (ln < ln2) ∧ (nd2 - nd ≤ 2 * at2 - (2 * at0 - tz tk0)) ∧ (at2 < lf2 ∨ li ≤ ln2) ∧ (nd ≤ r) ∧ (r < nd2) ∧ (wSt A' (sy2) pb (wP A' (sy2) pb (k)) (Vs) (r) (nd) (nd2) (sy) (sy2)) ∧ (NX A' (r)) ∧ (nd2 - nd + 5 * (ec2 - ec) ≤ 2 * at2 - (2 * at0 - tz tk0)) ∧ (NdO A' (nd) (nd2) (sy) (r))))) := by
  have hF0 : Fr [9, 10, 11, 12, 13, 14, 15, 16, 17, 18, 19, 28, 29, 31] [6, 7, 8, 9, 10, 11, 12, 14, 15, 16, 17, 18, 19, 20, 21, 22, 23, 24, 28] G A G A := Fr_rf
  have hP0 : Pf nd A A := Pf_rf
  have hS0 : Fx sr (sy) A A := Fx_rf
  have hV0 : Fx [14] (vi) A A := Fx_rf
  have b_ln : (0 : Int) ≤ ln ∧ ln ≤ 3000 := e_ln ▸ hW.1 9
  have b_li : (0 : Int) ≤ li ∧ li ≤ 3000 := e_li ▸ hW.1 3
  have b_at0 : (0 : Int) ≤ at0 ∧ at0 ≤ 3002 := e_at0 ▸ hW.1 10
  have b_fk : (0 : Int) ≤ fk ∧ fk ≤ 6 := e_fk ▸ hW.1 16
  have b_nd : (0 : Int) ≤ nd ∧ nd ≤ 6999 := e_nd ▸ hW.1 31
  have b_sy : (0 : Int) ≤ sy ∧ sy ≤ 202 := e_sy ▸ hW.1 19
  have b_na : (0 : Int) ≤ na ∧ na ≤ 200 := e_na ▸ hW.1 28
  have b_vi : (0 : Int) ≤ vi ∧ vi ≤ 202 := e_vi ▸ hW.1 29
  have b_le : (0 : Int) ≤ le ∧ le ≤ 3000 := e_le ▸ hW.2 4 _
  have b_op0 : (-2147483648 : Int) ≤ op0 ∧ op0 ≤ 2147483647 := e_op0 ▸ hW.1 15
  have z_tk0 := tz_f tk0
  have b_tk0 : (0 : Int) ≤ tk0 ∧ tk0 ≤ 5 := e_tk0 ▸ hW.1 11
  intro L Gx Ax n at1 tk1 fk1 nd1 op1 sy1 na1 ec1 gL_0 gL_1 gL_2 hWx hFx hPx hSx hVx ex_at1 ex_tk1 ex_fk1 ex_nd1 ex_op1 ex_sy1 ex_na1 ex_ec1 fx_9 fx_29 rx_n iv_0 iv_1 iv_2 iv_3 iv_4 iv_5 iv_6 iv_7
  have b_at1 : (0 : Int) ≤ at1 ∧ at1 ≤ 3002 := ex_at1 ▸ hWx.1 10
  have z_tk1 := tz_f tk1
  have b_tk1 : (0 : Int) ≤ tk1 ∧ tk1 ≤ 5 := ex_tk1 ▸ hWx.1 11
  have b_fk1 : (0 : Int) ≤ fk1 ∧ fk1 ≤ 6 := ex_fk1 ▸ hWx.1 16
  have b_nd1 : (0 : Int) ≤ nd1 ∧ nd1 ≤ 6999 := ex_nd1 ▸ hWx.1 31
  have b_op1 : (-2147483648 : Int) ≤ op1 ∧ op1 ≤ 2147483647 := ex_op1 ▸ hWx.1 15
  have b_sy1 : (0 : Int) ≤ sy1 ∧ sy1 ≤ 202 := ex_sy1 ▸ hWx.1 19
  have b_na1 : (0 : Int) ≤ na1 ∧ na1 ≤ 200 := ex_na1 ▸ hWx.1 28
  refine jx_ld (pc' := 120) (l' := L) (st' := [.ref 66]) rfl (jl_aloadn gL_0) ?_
  refine jr_get (pc' := 123) (i := 37) (v := .ref 87) rfl rfl (by decide) rfl rfl ?_
  refine jx_ld (pc' := 124) (l' := L) (st' := [.int (i32 (n)), .ref 87]) rfl (jl_iloadn gL_2) ?_
  refine jx_ld (pc' := 125) (l' := L) (st' := [.ref 66, .int (i32 (n)), .ref 87]) rfl (jl_aloadn gL_0) ?_
  refine jx_ar (pc' := 126) (st' := [.int (i32 (1)), .ref 66, .int (i32 (n)), .ref 87]) rfl rfl rfl rfl ?_
  refine jx_ar (pc' := 128) (st' := [.int (i32 (8)), .int (i32 (1)), .ref 66, .int (i32 (n)), .ref 87]) rfl rfl rfl rfl ?_
  refine jx_vr (pc' := 131) (as := [.int (i32 (1)), .int (i32 (8))]) (st := [.int (i32 (n)), .ref 87]) rfl rfl rfl rfl ⟨rfl, rfl, Nat.le_of_ble_eq_true rfl⟩ rfl rfl (c_needNumber (dd := d) (hd := by omega) (hW := hWx) (lo := 1) (hi := 8) (ln := ln) (e_ln := show Gx 9 = ln from (fx_9)) (le := le) (e_le := show Ax 4 (ln).toNat = le from (congrFun (hFx.2 4 rfl) _).trans (e_le)) (at0 := at1) (e_at0 := show Gx 10 = at1 from (ex_at1)) (fk := fk1) (e_fk := show Gx 16 = fk1 from (ex_fk1)) (tk0 := tk1) (e_tk0 := show Gx 11 = tk1 from (ex_tk1))  (h_lo := ⟨(by decide), (by decide)⟩) (h_hi := ⟨(by decide), (by decide)⟩)  (p_0 := by omega)) (fun o V' hq => ?_)
  obtain ⟨G26, A27, r28, at2_29, tk2_30, fk2_31, rfl, rfl, hW32, hF33, b34, e35, e36, e37, p38, p39, q40⟩ := hq
  have hF41 := Fr_tr hFx hF33 (Fr_sub (by decide)) (Fr_sub (by decide))
  have hP42 := Pf_f hPx hF33 (by decide)
  have hS43 := Fx_f hSx hF33 (by decide)
  have hV44 := Fx_f hVx hF33 (by decide)
  have ec45 : ecn A27 (G26 31) = ec1 := (ecn_f (hF33.2 15 rfl) (hF33.1 31 rfl)).trans ex_ec1
  have bat2_29 : (0 : Int) ≤ at2_29 ∧ at2_29 ≤ 3002 := e35 ▸ hW32.1 10
  have ztk2_30 := tz_b tk2_30
  have btk2_30 : (0 : Int) ≤ tk2_30 ∧ tk2_30 ≤ 5 := e36 ▸ hW32.1 11
  have bfk2_31 : (0 : Int) ≤ fk2_31 ∧ fk2_31 ≤ 6 := e37 ▸ hW32.1 16
  refine .inr ⟨_, rfl, ?_⟩
  rcases q40 with ⟨a46, a47, a48, a49⟩ | ⟨a50, a51, a52, a53, a54⟩
  · have _q : True := trivial
    refine jr_st (pc' := 132) (i := 20) (m := 7000) (z := n) (y := r28) rfl (by decide) rfl (by decide) (by omega) (by omega) rfl ?_
    have hW56 : Wk G26 (uA A27 20 (n).toNat (r28)) := Wk_a hW32 (show (-2147483648 : Int) ≤ r28 by omega) (show r28 ≤ (2147483647 : Int) by omega)
    have hF57 := Fr_a (z := r28) (k := 20) (n := (n).toNat) hF41 (by decide)
    obtain ⟨A55, eA55⟩ : ∃ q, q = uA A27 20 (n).toNat (r28) := ⟨_, rfl⟩
    rw [← eA55]
    rw [← eA55] at hW56 hF57
    have q58 : A55 20 (n).toNat = r28 := by rw [eA55]; exact uA_eq
    have hP59 : Pf nd A A55 := eA55 ▸ Pf_a hP42 (z := n) (by omega) (by omega)
    have hS60 : Fx sr (sy) A A55 := eA55 ▸ Fx_n hS43 rfl
    have hV61 : Fx [14] (vi) A A55 := eA55 ▸ Fx_n hV44 rfl
    have ec62 : ecn A55 (G26 31) = ec1 := (ecn_e ((congrFun eA55 15).trans (uA_ne (by decide)))).trans ec45
    have z63 := tz_f (tk2_30)
    exact c_readPar_w_at_132p (X := X) (k := k) (hP := hP) (d := d) (Vs := Vs) (sb := sb) (pb := pb) (hvb := hvb) (c0 := c0) (c1 := c1) (G := G) (A := A) (T := T) (lv := lv) (ln := ln) (li := li) (at0 := at0) (fk := fk) (nd := nd) (sy := sy) (na := na) (vi := vi) (le := le) (op0 := op0) (tk0 := tk0) (ec := ec) (hd := hd) (hW := hW) (e_ln := e_ln) (e_li := e_li) (e_at0 := e_at0) (e_fk := e_fk) (e_nd := e_nd) (e_sy := e_sy) (e_na := e_na) (e_vi := e_vi) (e_le := e_le) (e_op0 := e_op0) (e_tk0 := e_tk0) (e_ec := e_ec) (i_LT := i_LT) (i_SV := i_SV) (i_PQ := i_PQ) (h_lv := h_lv) (p_0 := p_0) (p_1 := p_1) (p_2 := p_2) (p_3 := p_3) (p_4 := p_4) (p_5 := p_5) (p_6 := p_6) (p_7 := p_7) (p_8 := p_8) (p_9 := p_9) (p_10 := p_10) L G26 A55 (n) (at2_29) (tk2_30) (fk2_31) (nd1) (op1) (sy1) (na1) (ec1) gL_0 gL_1 gL_2 hW56 hF57 hP59 hS60 hV61 ((e35)) ((e36)) ((e37)) (((hF33.1 31 rfl).trans (ex_nd1))) (((hF33.1 15 rfl).trans (ex_op1))) (((hF33.1 19 rfl).trans (ex_sy1))) (((hF33.1 28 rfl).trans (ex_na1))) (ec62) (((hF33.1 9 rfl).trans (fx_9))) (((hF33.1 29 rfl).trans (fx_29))) (by omega) (by omega) (by omega) (by omega) (by omega) (by omega) (by omega) (by omega) (by omega)
  · have _q : True := trivial
    exfalso
    omega
set_option maxRecDepth 20000 in
set_option maxHeartbeats 4000000 in
theorem c_readPar_w_at_109p {X : jX} {k : Nat} (hP : RPw X k) {d : Nat} {Vs : Nat → Prop} {sb pb : Int} (hvb : VB Vs sb) {c0 c1 : jC} {G : Nat → Int} {A : Nat → Nat → Int} {T : jH} {lv : Int} {ln li at0 fk nd sy na vi le op0 tk0 ec : Int} (hd : 8 * k + 82 ≤ d + 1) (hW : Wk G A) (e_ln : G 9 = ln) (e_li : G 3 = li) (e_at0 : G 10 = at0) (e_fk : G 16 = fk) (e_nd : G 31 = nd) (e_sy : G 19 = sy) (e_na : G 28 = na) (e_vi : G 29 = vi) (e_le : A 4 (ln).toNat = le) (e_op0 : G 15 = op0) (e_tk0 : G 11 = tk0) (e_ec : ecn A (G 31) = ec) (i_LT : LT G A) (i_SV : SV Vs sb G A) (i_PQ : PQ Vs sb pb G A) (h_lv : (-2147483648 : Int) ≤ lv ∧ lv ≤ 2147483647) (p_0 : 0 ≤ lv ∧ lv ≤ 15) (p_1 : 18 - lv ≤ ((k + 1 : Nat) : Int)) (p_2 : fk = 0) (p_3 : ln < li) (p_4 : at0 ≤ le) (p_5 : op0 = 0) (p_6 : nd ≤ 2 * at0 - tz tk0 + 30) (p_7 : sy ≤ na + 2) (p_8 : vi ≤ sy) (p_9 : sb = sy) (p_10 : 1 ≤ tk0) : ∀ (L : jL) (Gx : Nat → Int) (Ax : Nat → Nat → Int) (n at1 tk1 fk1 nd1 op1 sy1 na1 ec1 : Int), jGet L 0 = some (.ref 66) → jGet L 1 = some (.int (i32 (lv))) → jGet L 2 = some (.int (i32 n)) → Wk Gx Ax → Fr [9, 10, 11, 12, 13, 14, 15, 16, 17, 18, 19, 28, 29, 31] [6, 7, 8, 9, 10, 11, 12, 14, 15, 16, 17, 18, 19, 20, 21, 22, 23, 24, 28] G A Gx Ax → Pf nd A Ax → Fx sr (sy) A Ax → Fx [14] (vi) A Ax → Gx 10 = at1 → Gx 11 = tk1 → Gx 16 = fk1 → Gx 31 = nd1 → Gx 15 = op1 → Gx 19 = sy1 → Gx 28 = na1 → ecn Ax (Gx 31) = ec1 → Gx 9 = ln → Gx 29 = vi → ((-2147483648 : Int) ≤ n ∧ n ≤ 2147483647) → (1 ≤ fk1) → (at0 ≤ at1) → (at1 ≤ le) → (nd ≤ n ∧ n ≤ 6998 ∧ n < nd1) → (sy ≤ sy1) → (sy1 ≤ na1 + 2) → (0 ≤ op1 ∧ op1 ≤ 9) → (nd1 - nd ≤ 2 * at1 - 2 * at0 + 8) → wj X d jm299 (109, L, [], rV c0 c1 Gx Ax T) (fun o V' => ∃ (G' : Nat → Int) (A' : Nat → Nat → Int) (r : Int) (ln2 : Int) (at2 : Int) (fk2 : Int) (nd2 : Int) (sy2 : Int) (na2 : Int) (vi2 : Int) (lf2 : Int) (ec2 : Int), V' = rV c0 c1 G' A' T ∧ o = .inl (some (.int (i32 r))) ∧ Wk G' A' ∧ Fr [9, 10, 11, 12, 13, 14, 15, 16, 17, 18, 19, 28, 29, 31] [6, 7, 8, 9, 10, 11, 12, 14, 15, 16, 17, 18, 19, 20, 21, 22, 23, 24, 28] G A G' A' ∧ Pf nd A A' ∧ Fx sr (sy) A A' ∧ Fx [14] (vi) A A' ∧ ((-2147483648 : Int) ≤ r ∧ r ≤ 2147483647) ∧ G' 9 = ln2 ∧ G' 10 = at2 ∧ G' 16 = fk2 ∧ G' 31 = nd2 ∧ G' 19 = sy2 ∧ G' 28 = na2 ∧ G' 29 = vi2 ∧ A' 3 (ln2).toNat = lf2 ∧ ecn A' (G' 31) = ec2 ∧ (at0 ≤ at2) ∧ (nd ≤ nd2) ∧ (sy ≤ sy2) ∧ (sy2 ≤ na2 + 2) ∧ (vi ≤ vi2) ∧ (vi2 ≤ vi + 1) ∧ (0 ≤ r) ∧ (r ≤ 6999) ∧ (ln ≤ ln2) ∧ (ln2 ≤ li) ∧ (((1 ≤ fk2) ∧ (nd2 - nd ≤ 2 * at2 - (2 * at0 - tz tk0) + 14)) ∨ ((fk2 = 0) ∧ (vi2 = vi) ∧ (ln < ln2) ∧ (nd2 - nd ≤ 2 * at2 - (2 * at0 - tz tk0)) ∧ (at2 < lf2 ∨ li ≤ ln2) ∧ (nd ≤ r) ∧ (r < nd2) ∧ (wSt A' (sy2) pb (wP A' (sy2) pb (k)) (Vs) (r) (nd) (nd2) (sy) (sy2)) ∧ (NX A' (r)) ∧ (nd2 - nd + 5 * (ec2 - ec) ≤ 2 * at2 - (2 * at0 - tz tk0)) ∧ (NdO A' (nd) (nd2) (sy) (r))))) := by
  have hF0 : Fr [9, 10, 11, 12, 13, 14, 15, 16, 17, 18, 19, 28, 29, 31] [6, 7, 8, 9, 10, 11, 12, 14, 15, 16, 17, 18, 19, 20, 21, 22, 23, 24, 28] G A G A := Fr_rf
  have hP0 : Pf nd A A := Pf_rf
  have hS0 : Fx sr (sy) A A := Fx_rf
  have hV0 : Fx [14] (vi) A A := Fx_rf
  have b_ln : (0 : Int) ≤ ln ∧ ln ≤ 3000 := e_ln ▸ hW.1 9
  have b_li : (0 : Int) ≤ li ∧ li ≤ 3000 := e_li ▸ hW.1 3
  have b_at0 : (0 : Int) ≤ at0 ∧ at0 ≤ 3002 := e_at0 ▸ hW.1 10
  have b_fk : (0 : Int) ≤ fk ∧ fk ≤ 6 := e_fk ▸ hW.1 16
  have b_nd : (0 : Int) ≤ nd ∧ nd ≤ 6999 := e_nd ▸ hW.1 31
  have b_sy : (0 : Int) ≤ sy ∧ sy ≤ 202 := e_sy ▸ hW.1 19
  have b_na : (0 : Int) ≤ na ∧ na ≤ 200 := e_na ▸ hW.1 28
  have b_vi : (0 : Int) ≤ vi ∧ vi ≤ 202 := e_vi ▸ hW.1 29
  have b_le : (0 : Int) ≤ le ∧ le ≤ 3000 := e_le ▸ hW.2 4 _
  have b_op0 : (-2147483648 : Int) ≤ op0 ∧ op0 ≤ 2147483647 := e_op0 ▸ hW.1 15
  have z_tk0 := tz_f tk0
  have b_tk0 : (0 : Int) ≤ tk0 ∧ tk0 ≤ 5 := e_tk0 ▸ hW.1 11
  intro L Gx Ax n at1 tk1 fk1 nd1 op1 sy1 na1 ec1 gL_0 gL_1 gL_2 hWx hFx hPx hSx hVx ex_at1 ex_tk1 ex_fk1 ex_nd1 ex_op1 ex_sy1 ex_na1 ex_ec1 fx_9 fx_29 rx_n iv_0 iv_1 iv_2 iv_3 iv_4 iv_5 iv_6 iv_7
  have b_at1 : (0 : Int) ≤ at1 ∧ at1 ≤ 3002 := ex_at1 ▸ hWx.1 10
  have z_tk1 := tz_f tk1
  have b_tk1 : (0 : Int) ≤ tk1 ∧ tk1 ≤ 5 := ex_tk1 ▸ hWx.1 11
  have b_fk1 : (0 : Int) ≤ fk1 ∧ fk1 ≤ 6 := ex_fk1 ▸ hWx.1 16
  have b_nd1 : (0 : Int) ≤ nd1 ∧ nd1 ≤ 6999 := ex_nd1 ▸ hWx.1 31
  have b_op1 : (-2147483648 : Int) ≤ op1 ∧ op1 ≤ 2147483647 := ex_op1 ▸ hWx.1 15
  have b_sy1 : (0 : Int) ≤ sy1 ∧ sy1 ≤ 202 := ex_sy1 ▸ hWx.1 19
  have b_na1 : (0 : Int) ≤ na1 ∧ na1 ≤ 200 := ex_na1 ▸ hWx.1 28
  refine jx_ld (pc' := 110) (l' := L) (st' := [.ref 66]) rfl (jl_aloadn gL_0) ?_
  refine jx_ld (pc' := 111) (l' := L) (st' := [.ref 66, .ref 66]) rfl (jl_aloadn gL_0) ?_
  refine jx_ar (pc' := 113) (st' := [.int (i32 (13)), .ref 66, .ref 66]) rfl rfl rfl rfl ?_
  have b64 : (-2147483648 : Int) ≤ Gx 13 ∧ Gx 13 ≤ 2147483647 := hWx.1 13
  refine jx_vr (pc' := 116) (as := [.int (i32 (13))]) (st := [.ref 66]) rfl rfl rfl rfl ⟨rfl, rfl, Nat.le_of_ble_eq_true rfl⟩ rfl rfl (c_isKey (dd := d) (hd := by omega) (hW := hWx) (k := 13) (tk := tk1) (e_tk := show Gx 11 = tk1 from (ex_tk1)) (tn := Gx 13) (e_tn := show Gx 13 = Gx 13 from rfl)  (h_k := ⟨(by decide), (by decide)⟩)  ) (fun o V' hq => ?_)
  obtain ⟨r65, rfl, rfl, b66, q67⟩ := hq
  refine .inr ⟨_, rfl, ?_⟩
  rcases q67 with ⟨rfl, a68, a69, a70⟩ | rfl
  · have _q : True := trivial
    refine jx_vr (pc' := 119) (as := [.int (i32 (1))]) (st := []) rfl rfl rfl rfl ⟨rfl, rfl, Nat.le_of_ble_eq_true rfl⟩ rfl rfl (c_need (dd := d) (hd := by omega) (hW := hWx) (g := 1) (ln := ln) (e_ln := show Gx 9 = ln from (fx_9)) (le := le) (e_le := show Ax 4 (ln).toNat = le from (congrFun (hFx.2 4 rfl) _).trans (e_le)) (at0 := at1) (e_at0 := show Gx 10 = at1 from (ex_at1)) (fk := fk1) (e_fk := show Gx 16 = fk1 from (ex_fk1)) (tk0 := tk1) (e_tk0 := show Gx 11 = tk1 from (ex_tk1))  (h_g := ⟨(by decide), (by decide)⟩)  (p_0 := by omega)) (fun o V' hq => ?_)
    obtain ⟨G71, A72, at2_73, tk2_74, fk2_75, rfl, rfl, hW76, hF77, e78, e79, e80, p81, p82, q83⟩ := hq
    have hF84 := Fr_tr hFx hF77 (Fr_sub (by decide)) (Fr_sub (by decide))
    have hP85 := Pf_f hPx hF77 (by decide)
    have hS86 := Fx_f hSx hF77 (by decide)
    have hV87 := Fx_f hVx hF77 (by decide)
    have ec88 : ecn A72 (G71 31) = ec1 := (ecn_f (hF77.2 15 rfl) (hF77.1 31 rfl)).trans ex_ec1
    have bat2_73 : (0 : Int) ≤ at2_73 ∧ at2_73 ≤ 3002 := e78 ▸ hW76.1 10
    have ztk2_74 := tz_b tk2_74
    have btk2_74 : (0 : Int) ≤ tk2_74 ∧ tk2_74 ≤ 5 := e79 ▸ hW76.1 11
    have bfk2_75 : (0 : Int) ≤ fk2_75 ∧ fk2_75 ≤ 6 := e80 ▸ hW76.1 16
    refine .inl ⟨rfl, ?_⟩
    rcases q83 with ⟨a89, a90, a91, a92⟩ | ⟨a93, a94, a95, a96⟩
    · have _q : True := trivial
      have z97 := tz_f (tk2_74)
      exact c_readPar_w_at_119p (X := X) (k := k) (hP := hP) (d := d) (Vs := Vs) (sb := sb) (pb := pb) (hvb := hvb) (c0 := c0) (c1 := c1) (G := G) (A := A) (T := T) (lv := lv) (ln := ln) (li := li) (at0 := at0) (fk := fk) (nd := nd) (sy := sy) (na := na) (vi := vi) (le := le) (op0 := op0) (tk0 := tk0) (ec := ec) (hd := hd) (hW := hW) (e_ln := e_ln) (e_li := e_li) (e_at0 := e_at0) (e_fk := e_fk) (e_nd := e_nd) (e_sy := e_sy) (e_na := e_na) (e_vi := e_vi) (e_le := e_le) (e_op0 := e_op0) (e_tk0 := e_tk0) (e_ec := e_ec) (i_LT := i_LT) (i_SV := i_SV) (i_PQ := i_PQ) (h_lv := h_lv) (p_0 := p_0) (p_1 := p_1) (p_2 := p_2) (p_3 := p_3) (p_4 := p_4) (p_5 := p_5) (p_6 := p_6) (p_7 := p_7) (p_8 := p_8) (p_9 := p_9) (p_10 := p_10) L G71 A72 (n) (at2_73) (tk2_74) (fk2_75) (nd1) (op1) (sy1) (na1) (ec1) gL_0 gL_1 gL_2 hW76 hF84 hP85 hS86 hV87 ((e78)) ((e79)) ((e80)) (((hF77.1 31 rfl).trans (ex_nd1))) (((hF77.1 15 rfl).trans (ex_op1))) (((hF77.1 19 rfl).trans (ex_sy1))) (((hF77.1 28 rfl).trans (ex_na1))) (ec88) (((hF77.1 9 rfl).trans (fx_9))) (((hF77.1 29 rfl).trans (fx_29))) (by omega) (by omega) (by omega) (by omega) (by omega) (by omega) (by omega) (by omega) (by omega)
    · have _q : True := trivial
      exfalso
      omega
  · have _q : True := trivial
    refine jx_vr (pc' := 119) (as := [.int (i32 (0))]) (st := []) rfl rfl rfl rfl ⟨rfl, rfl, Nat.le_of_ble_eq_true rfl⟩ rfl rfl (c_need (dd := d) (hd := by omega) (hW := hWx) (g := 0) (ln := ln) (e_ln := show Gx 9 = ln from (fx_9)) (le := le) (e_le := show Ax 4 (ln).toNat = le from (congrFun (hFx.2 4 rfl) _).trans (e_le)) (at0 := at1) (e_at0 := show Gx 10 = at1 from (ex_at1)) (fk := fk1) (e_fk := show Gx 16 = fk1 from (ex_fk1)) (tk0 := tk1) (e_tk0 := show Gx 11 = tk1 from (ex_tk1))  (h_g := ⟨(by decide), (by decide)⟩)  (p_0 := by omega)) (fun o V' hq => ?_)
    obtain ⟨G98, A99, at2_100, tk2_101, fk2_102, rfl, rfl, hW103, hF104, e105, e106, e107, p108, p109, q110⟩ := hq
    have hF111 := Fr_tr hFx hF104 (Fr_sub (by decide)) (Fr_sub (by decide))
    have hP112 := Pf_f hPx hF104 (by decide)
    have hS113 := Fx_f hSx hF104 (by decide)
    have hV114 := Fx_f hVx hF104 (by decide)
    have ec115 : ecn A99 (G98 31) = ec1 := (ecn_f (hF104.2 15 rfl) (hF104.1 31 rfl)).trans ex_ec1
    have bat2_100 : (0 : Int) ≤ at2_100 ∧ at2_100 ≤ 3002 := e105 ▸ hW103.1 10
    have ztk2_101 := tz_b tk2_101
    have btk2_101 : (0 : Int) ≤ tk2_101 ∧ tk2_101 ≤ 5 := e106 ▸ hW103.1 11
    have bfk2_102 : (0 : Int) ≤ fk2_102 ∧ fk2_102 ≤ 6 := e107 ▸ hW103.1 16
    refine .inl ⟨rfl, ?_⟩
    rcases q110 with ⟨a116, a117, a118, a119⟩ | ⟨a120, a121, a122, a123⟩
    · have _q : True := trivial
      have z124 := tz_f (tk2_101)
      exact c_readPar_w_at_119p (X := X) (k := k) (hP := hP) (d := d) (Vs := Vs) (sb := sb) (pb := pb) (hvb := hvb) (c0 := c0) (c1 := c1) (G := G) (A := A) (T := T) (lv := lv) (ln := ln) (li := li) (at0 := at0) (fk := fk) (nd := nd) (sy := sy) (na := na) (vi := vi) (le := le) (op0 := op0) (tk0 := tk0) (ec := ec) (hd := hd) (hW := hW) (e_ln := e_ln) (e_li := e_li) (e_at0 := e_at0) (e_fk := e_fk) (e_nd := e_nd) (e_sy := e_sy) (e_na := e_na) (e_vi := e_vi) (e_le := e_le) (e_op0 := e_op0) (e_tk0 := e_tk0) (e_ec := e_ec) (i_LT := i_LT) (i_SV := i_SV) (i_PQ := i_PQ) (h_lv := h_lv) (p_0 := p_0) (p_1 := p_1) (p_2 := p_2) (p_3 := p_3) (p_4 := p_4) (p_5 := p_5) (p_6 := p_6) (p_7 := p_7) (p_8 := p_8) (p_9 := p_9) (p_10 := p_10) L G98 A99 (n) (at2_100) (tk2_101) (fk2_102) (nd1) (op1) (sy1) (na1) (ec1) gL_0 gL_1 gL_2 hW103 hF111 hP112 hS113 hV114 ((e105)) ((e106)) ((e107)) (((hF104.1 31 rfl).trans (ex_nd1))) (((hF104.1 15 rfl).trans (ex_op1))) (((hF104.1 19 rfl).trans (ex_sy1))) (((hF104.1 28 rfl).trans (ex_na1))) (ec115) (((hF104.1 9 rfl).trans (fx_9))) (((hF104.1 29 rfl).trans (fx_29))) (by omega) (by omega) (by omega) (by omega) (by omega) (by omega) (by omega) (by omega) (by omega)
    · have _q : True := trivial
      exfalso
      omega
set_option maxRecDepth 20000 in
set_option maxHeartbeats 4000000 in
theorem c_readPar_w_at_109 {X : jX} {k : Nat} (hP : RPw X k) {d : Nat} {Vs : Nat → Prop} {sb pb : Int} (hvb : VB Vs sb) {c0 c1 : jC} {G : Nat → Int} {A : Nat → Nat → Int} {T : jH} {lv : Int} {ln li at0 fk nd sy na vi le op0 tk0 ec : Int} (hd : 8 * k + 82 ≤ d + 1) (hW : Wk G A) (e_ln : G 9 = ln) (e_li : G 3 = li) (e_at0 : G 10 = at0) (e_fk : G 16 = fk) (e_nd : G 31 = nd) (e_sy : G 19 = sy) (e_na : G 28 = na) (e_vi : G 29 = vi) (e_le : A 4 (ln).toNat = le) (e_op0 : G 15 = op0) (e_tk0 : G 11 = tk0) (e_ec : ecn A (G 31) = ec) (i_LT : LT G A) (i_SV : SV Vs sb G A) (i_PQ : PQ Vs sb pb G A) (h_lv : (-2147483648 : Int) ≤ lv ∧ lv ≤ 2147483647) (p_0 : 0 ≤ lv ∧ lv ≤ 15) (p_1 : 18 - lv ≤ ((k + 1 : Nat) : Int)) (p_2 : fk = 0) (p_3 : ln < li) (p_4 : at0 ≤ le) (p_5 : op0 = 0) (p_6 : nd ≤ 2 * at0 - tz tk0 + 30) (p_7 : sy ≤ na + 2) (p_8 : vi ≤ sy) (p_9 : sb = sy) (p_10 : 1 ≤ tk0) : ∀ (L : jL) (Gx : Nat → Int) (Ax : Nat → Nat → Int) (n at1 tk1 fk1 nd1 op1 sy1 na1 sa1 ka1 exc ec1 : Int), jGet L 0 = some (.ref 66) → jGet L 1 = some (.int (i32 (lv))) → jGet L 2 = some (.int (i32 n)) → Wk Gx Ax → Fr [9, 10, 11, 12, 13, 14, 15, 16, 17, 18, 19, 28, 29, 31] [6, 7, 8, 9, 10, 11, 12, 14, 15, 16, 17, 18, 19, 20, 21, 22, 23, 24, 28] G A Gx Ax → Pf nd A Ax → Fx sr (sy) A Ax → Fx [14] (vi) A Ax → Gx 10 = at1 → Gx 11 = tk1 → Gx 16 = fk1 → Gx 31 = nd1 → Gx 15 = op1 → Gx 19 = sy1 → Gx 28 = na1 → Ax 17 (n).toNat = sa1 → Ax 7 (sa1).toNat = ka1 → Ax 19 (n).toNat = exc → ecn Ax (Gx 31) = ec1 → Gx 9 = ln → Gx 29 = vi → ((-2147483648 : Int) ≤ n ∧ n ≤ 2147483647) → (fk1 = 0) → (at0 ≤ at1) → (at1 ≤ le) → (n = nd) → (n ≤ 6998 ∧ n < nd1) → (sy1 = sy + 1) → (sa1 = sy) → (sy1 ≤ na1 + 2) → (op1 = 0) → (nd1 - nd ≤ (2 * at1 - tz tk1) - (2 * at0 - tz tk0)) → (ka1 = 10) → (ND Ax (n) (29) (sa1) (0) (exc) (0) (0) (0)) → (0 ≤ exc) → (nd1 = n + 1) → (nd1 - nd + 5 * (ec1 - ec) ≤ (2 * at1 - tz tk1) - (2 * at0 - tz tk0)) → (NdO Ax (nd) (nd1) (sy) (n)) → wj X d jm299 (109, L, [], rV c0 c1 Gx Ax T) (fun o V' => ∃ (G' : Nat → Int) (A' : Nat → Nat → Int) (r : Int) (ln2 : Int) (at2 : Int) (fk2 : Int) (nd2 : Int) (sy2 : Int) (na2 : Int) (vi2 : Int) (lf2 : Int) (ec2 : Int), V' = rV c0 c1 G' A' T ∧ o = .inl (some (.int (i32 r))) ∧ Wk G' A' ∧ Fr [9, 10, 11, 12, 13, 14, 15, 16, 17, 18, 19, 28, 29, 31] [6, 7, 8, 9, 10, 11, 12, 14, 15, 16, 17, 18, 19, 20, 21, 22, 23, 24, 28] G A G' A' ∧ Pf nd A A' ∧ Fx sr (sy) A A' ∧ Fx [14] (vi) A A' ∧ ((-2147483648 : Int) ≤ r ∧ r ≤ 2147483647) ∧ G' 9 = ln2 ∧ G' 10 = at2 ∧ G' 16 = fk2 ∧ G' 31 = nd2 ∧ G' 19 = sy2 ∧ G' 28 = na2 ∧ G' 29 = vi2 ∧ A' 3 (ln2).toNat = lf2 ∧ ecn A' (G' 31) = ec2 ∧ (at0 ≤ at2) ∧ (nd ≤ nd2) ∧ (sy ≤ sy2) ∧ (sy2 ≤ na2 + 2) ∧ (vi ≤ vi2) ∧ (vi2 ≤ vi + 1) ∧ (0 ≤ r) ∧ (r ≤ 6999) ∧ (ln ≤ ln2) ∧ (ln2 ≤ li) ∧ (((1 ≤ fk2) ∧ (nd2 - nd ≤ 2 * at2 - (2 * at0 - tz tk0) + 14)) ∨ ((fk2 = 0) ∧ (vi2 = vi) ∧ (ln < ln2) ∧ (nd2 - nd ≤ 2 * at2 - (2 * at0 - tz tk0)) ∧ (at2 < lf2 ∨ li ≤ ln2) ∧ (nd ≤ r) ∧ (r < nd2) ∧ (wSt A' (sy2) pb (wP A' (sy2) pb (k)) (Vs) (r) (nd) (nd2) (sy) (sy2)) ∧ (NX A' (r)) ∧ (nd2 - nd + 5 * (ec2 - ec) ≤ 2 * at2 - (2 * at0 - tz tk0)) ∧ (NdO A' (nd) (nd2) (sy) (r))))) := by
  have hF0 : Fr [9, 10, 11, 12, 13, 14, 15, 16, 17, 18, 19, 28, 29, 31] [6, 7, 8, 9, 10, 11, 12, 14, 15, 16, 17, 18, 19, 20, 21, 22, 23, 24, 28] G A G A := Fr_rf
  have hP0 : Pf nd A A := Pf_rf
  have hS0 : Fx sr (sy) A A := Fx_rf
  have hV0 : Fx [14] (vi) A A := Fx_rf
  have b_ln : (0 : Int) ≤ ln ∧ ln ≤ 3000 := e_ln ▸ hW.1 9
  have b_li : (0 : Int) ≤ li ∧ li ≤ 3000 := e_li ▸ hW.1 3
  have b_at0 : (0 : Int) ≤ at0 ∧ at0 ≤ 3002 := e_at0 ▸ hW.1 10
  have b_fk : (0 : Int) ≤ fk ∧ fk ≤ 6 := e_fk ▸ hW.1 16
  have b_nd : (0 : Int) ≤ nd ∧ nd ≤ 6999 := e_nd ▸ hW.1 31
  have b_sy : (0 : Int) ≤ sy ∧ sy ≤ 202 := e_sy ▸ hW.1 19
  have b_na : (0 : Int) ≤ na ∧ na ≤ 200 := e_na ▸ hW.1 28
  have b_vi : (0 : Int) ≤ vi ∧ vi ≤ 202 := e_vi ▸ hW.1 29
  have b_le : (0 : Int) ≤ le ∧ le ≤ 3000 := e_le ▸ hW.2 4 _
  have b_op0 : (-2147483648 : Int) ≤ op0 ∧ op0 ≤ 2147483647 := e_op0 ▸ hW.1 15
  have z_tk0 := tz_f tk0
  have b_tk0 : (0 : Int) ≤ tk0 ∧ tk0 ≤ 5 := e_tk0 ▸ hW.1 11
  intro L Gx Ax n at1 tk1 fk1 nd1 op1 sy1 na1 sa1 ka1 exc ec1 gL_0 gL_1 gL_2 hWx hFx hPx hSx hVx ex_at1 ex_tk1 ex_fk1 ex_nd1 ex_op1 ex_sy1 ex_na1 ex_sa1 ex_ka1 ex_exc ex_ec1 fx_9 fx_29 rx_n iv_0 iv_1 iv_2 iv_3 iv_4 iv_5 iv_6 iv_7 iv_8 iv_9 iv_10 iv_11 iv_12 iv_13 iv_14 iv_15
  have b_at1 : (0 : Int) ≤ at1 ∧ at1 ≤ 3002 := ex_at1 ▸ hWx.1 10
  have z_tk1 := tz_f tk1
  have b_tk1 : (0 : Int) ≤ tk1 ∧ tk1 ≤ 5 := ex_tk1 ▸ hWx.1 11
  have b_fk1 : (0 : Int) ≤ fk1 ∧ fk1 ≤ 6 := ex_fk1 ▸ hWx.1 16
  have b_nd1 : (0 : Int) ≤ nd1 ∧ nd1 ≤ 6999 := ex_nd1 ▸ hWx.1 31
  have b_op1 : (-2147483648 : Int) ≤ op1 ∧ op1 ≤ 2147483647 := ex_op1 ▸ hWx.1 15
  have b_sy1 : (0 : Int) ≤ sy1 ∧ sy1 ≤ 202 := ex_sy1 ▸ hWx.1 19
  have b_na1 : (0 : Int) ≤ na1 ∧ na1 ≤ 200 := ex_na1 ▸ hWx.1 28
  refine jx_ld (pc' := 110) (l' := L) (st' := [.ref 66]) rfl (jl_aloadn gL_0) ?_
  refine jx_ld (pc' := 111) (l' := L) (st' := [.ref 66, .ref 66]) rfl (jl_aloadn gL_0) ?_
  refine jx_ar (pc' := 113) (st' := [.int (i32 (13)), .ref 66, .ref 66]) rfl rfl rfl rfl ?_
  have b125 : (-2147483648 : Int) ≤ Gx 13 ∧ Gx 13 ≤ 2147483647 := hWx.1 13
  refine jx_vr (pc' := 116) (as := [.int (i32 (13))]) (st := [.ref 66]) rfl rfl rfl rfl ⟨rfl, rfl, Nat.le_of_ble_eq_true rfl⟩ rfl rfl (c_isKey (dd := d) (hd := by omega) (hW := hWx) (k := 13) (tk := tk1) (e_tk := show Gx 11 = tk1 from (ex_tk1)) (tn := Gx 13) (e_tn := show Gx 13 = Gx 13 from rfl)  (h_k := ⟨(by decide), (by decide)⟩)  ) (fun o V' hq => ?_)
  obtain ⟨r126, rfl, rfl, b127, q128⟩ := hq
  refine .inr ⟨_, rfl, ?_⟩
  rcases q128 with ⟨rfl, a129, a130, a131⟩ | rfl
  · have _q : True := trivial
    refine jx_vr (pc' := 119) (as := [.int (i32 (1))]) (st := []) rfl rfl rfl rfl ⟨rfl, rfl, Nat.le_of_ble_eq_true rfl⟩ rfl rfl (c_need (dd := d) (hd := by omega) (hW := hWx) (g := 1) (ln := ln) (e_ln := show Gx 9 = ln from (fx_9)) (le := le) (e_le := show Ax 4 (ln).toNat = le from (congrFun (hFx.2 4 rfl) _).trans (e_le)) (at0 := at1) (e_at0 := show Gx 10 = at1 from (ex_at1)) (fk := fk1) (e_fk := show Gx 16 = fk1 from (ex_fk1)) (tk0 := tk1) (e_tk0 := show Gx 11 = tk1 from (ex_tk1))  (h_g := ⟨(by decide), (by decide)⟩)  (p_0 := by omega)) (fun o V' hq => ?_)
    obtain ⟨G132, A133, at2_134, tk2_135, fk2_136, rfl, rfl, hW137, hF138, e139, e140, e141, p142, p143, q144⟩ := hq
    have hF145 := Fr_tr hFx hF138 (Fr_sub (by decide)) (Fr_sub (by decide))
    have hP146 := Pf_f hPx hF138 (by decide)
    have hS147 := Fx_f hSx hF138 (by decide)
    have hV148 := Fx_f hVx hF138 (by decide)
    have sf149 : ND A133 (n) (29) (sa1) (0) (exc) (0) (0) (0) := ND_ag (by omega) (Ag_fr hF138 (by decide)) iv_11
    have sf150 : NdO A133 (nd) (nd1) (sy) (n) := NdO_f hF138 (by decide) iv_15
    have ec151 : ecn A133 (G132 31) = ec1 := (ecn_f (hF138.2 15 rfl) (hF138.1 31 rfl)).trans ex_ec1
    have bat2_134 : (0 : Int) ≤ at2_134 ∧ at2_134 ≤ 3002 := e139 ▸ hW137.1 10
    have ztk2_135 := tz_b tk2_135
    have btk2_135 : (0 : Int) ≤ tk2_135 ∧ tk2_135 ≤ 5 := e140 ▸ hW137.1 11
    have bfk2_136 : (0 : Int) ≤ fk2_136 ∧ fk2_136 ≤ 6 := e141 ▸ hW137.1 16
    refine .inl ⟨rfl, ?_⟩
    rcases q144 with ⟨a152, a153, a154, a155⟩ | ⟨a156, a157, a158, a159⟩
    · have _q : True := trivial
      have z160 := tz_f (tk2_135)
      exact c_readPar_w_at_119p (X := X) (k := k) (hP := hP) (d := d) (Vs := Vs) (sb := sb) (pb := pb) (hvb := hvb) (c0 := c0) (c1 := c1) (G := G) (A := A) (T := T) (lv := lv) (ln := ln) (li := li) (at0 := at0) (fk := fk) (nd := nd) (sy := sy) (na := na) (vi := vi) (le := le) (op0 := op0) (tk0 := tk0) (ec := ec) (hd := hd) (hW := hW) (e_ln := e_ln) (e_li := e_li) (e_at0 := e_at0) (e_fk := e_fk) (e_nd := e_nd) (e_sy := e_sy) (e_na := e_na) (e_vi := e_vi) (e_le := e_le) (e_op0 := e_op0) (e_tk0 := e_tk0) (e_ec := e_ec) (i_LT := i_LT) (i_SV := i_SV) (i_PQ := i_PQ) (h_lv := h_lv) (p_0 := p_0) (p_1 := p_1) (p_2 := p_2) (p_3 := p_3) (p_4 := p_4) (p_5 := p_5) (p_6 := p_6) (p_7 := p_7) (p_8 := p_8) (p_9 := p_9) (p_10 := p_10) L G132 A133 (n) (at2_134) (tk2_135) (fk2_136) (nd1) (op1) (sy1) (na1) (ec1) gL_0 gL_1 gL_2 hW137 hF145 hP146 hS147 hV148 ((e139)) ((e140)) ((e141)) (((hF138.1 31 rfl).trans (ex_nd1))) (((hF138.1 15 rfl).trans (ex_op1))) (((hF138.1 19 rfl).trans (ex_sy1))) (((hF138.1 28 rfl).trans (ex_na1))) (ec151) (((hF138.1 9 rfl).trans (fx_9))) (((hF138.1 29 rfl).trans (fx_29))) (by omega) (by omega) (by omega) (by omega) (by omega) (by omega) (by omega) (by omega) (by omega)
    · have _q : True := trivial
      have pz161 : at1 + tz tk2_135 ≤ at2_134 := by omega
      refine jx_ld (pc' := 120) (l' := L) (st' := [.ref 66]) rfl (jl_aloadn gL_0) ?_
      refine jr_get (pc' := 123) (i := 37) (v := .ref 87) rfl rfl (by decide) rfl rfl ?_
      refine jx_ld (pc' := 124) (l' := L) (st' := [.int (i32 (n)), .ref 87]) rfl (jl_iloadn gL_2) ?_
      refine jx_ld (pc' := 125) (l' := L) (st' := [.ref 66, .int (i32 (n)), .ref 87]) rfl (jl_aloadn gL_0) ?_
      refine jx_ar (pc' := 126) (st' := [.int (i32 (1)), .ref 66, .int (i32 (n)), .ref 87]) rfl rfl rfl rfl ?_
      refine jx_ar (pc' := 128) (st' := [.int (i32 (8)), .int (i32 (1)), .ref 66, .int (i32 (n)), .ref 87]) rfl rfl rfl rfl ?_
      refine jx_vr (pc' := 131) (as := [.int (i32 (1)), .int (i32 (8))]) (st := [.int (i32 (n)), .ref 87]) rfl rfl rfl rfl ⟨rfl, rfl, Nat.le_of_ble_eq_true rfl⟩ rfl rfl (c_needNumber (dd := d) (hd := by omega) (hW := hW137) (lo := 1) (hi := 8) (ln := ln) (e_ln := show G132 9 = ln from ((hF138.1 9 rfl).trans (fx_9))) (le := le) (e_le := show A133 4 (ln).toNat = le from (congrFun ((hF138.2 4 rfl).trans (hFx.2 4 rfl)) _).trans (e_le)) (at0 := at2_134) (e_at0 := show G132 10 = at2_134 from (e139)) (fk := fk2_136) (e_fk := show G132 16 = fk2_136 from (e141)) (tk0 := tk2_135) (e_tk0 := show G132 11 = tk2_135 from (e140))  (h_lo := ⟨(by decide), (by decide)⟩) (h_hi := ⟨(by decide), (by decide)⟩)  (p_0 := by omega)) (fun o V' hq => ?_)
      obtain ⟨G162, A163, r164, at2_165, tk2_166, fk2_167, rfl, rfl, hW168, hF169, b170, e171, e172, e173, p174, p175, q176⟩ := hq
      have hF177 := Fr_tr hF145 hF169 (Fr_sub (by decide)) (Fr_sub (by decide))
      have hP178 := Pf_f hP146 hF169 (by decide)
      have hS179 := Fx_f hS147 hF169 (by decide)
      have hV180 := Fx_f hV148 hF169 (by decide)
      have sf181 : ND A163 (n) (29) (sa1) (0) (exc) (0) (0) (0) := ND_ag (by omega) (Ag_fr hF169 (by decide)) sf149
      have sf182 : NdO A163 (nd) (nd1) (sy) (n) := NdO_f hF169 (by decide) sf150
      have ec183 : ecn A163 (G162 31) = ec1 := (ecn_f (hF169.2 15 rfl) (hF169.1 31 rfl)).trans ec151
      have bat2_165 : (0 : Int) ≤ at2_165 ∧ at2_165 ≤ 3002 := e171 ▸ hW168.1 10
      have ztk2_166 := tz_b tk2_166
      have btk2_166 : (0 : Int) ≤ tk2_166 ∧ tk2_166 ≤ 5 := e172 ▸ hW168.1 11
      have bfk2_167 : (0 : Int) ≤ fk2_167 ∧ fk2_167 ≤ 6 := e173 ▸ hW168.1 16
      refine .inr ⟨_, rfl, ?_⟩
      rcases q176 with ⟨a184, a185, a186, a187⟩ | ⟨a188, a189, a190, a191, a192⟩
      · have _q : True := trivial
        refine jr_st (pc' := 132) (i := 20) (m := 7000) (z := n) (y := r164) rfl (by decide) rfl (by decide) (by omega) (by omega) rfl ?_
        have hW194 : Wk G162 (uA A163 20 (n).toNat (r164)) := Wk_a hW168 (show (-2147483648 : Int) ≤ r164 by omega) (show r164 ≤ (2147483647 : Int) by omega)
        have hF195 := Fr_a (z := r164) (k := 20) (n := (n).toNat) hF177 (by decide)
        obtain ⟨A193, eA193⟩ : ∃ q, q = uA A163 20 (n).toNat (r164) := ⟨_, rfl⟩
        rw [← eA193]
        rw [← eA193] at hW194 hF195
        have q196 : A193 20 (n).toNat = r164 := by rw [eA193]; exact uA_eq
        have hP197 : Pf nd A A193 := eA193 ▸ Pf_a hP178 (z := n) (by omega) (by omega)
        have hS198 : Fx sr (sy) A A193 := eA193 ▸ Fx_n hS179 rfl
        have hV199 : Fx [14] (vi) A A193 := eA193 ▸ Fx_n hV180 rfl
        have sf200 : ND A193 (n) (29) (sa1) (0) (exc) (r164) (0) (0) := ND_d eA193 sf181
        have sf201 : NdO A193 (nd) (nd1) (sy) (n) := NdO_st eA193 (by decide) sf182
        have ec202 : ecn A193 (G162 31) = ec1 := (ecn_e ((congrFun eA193 15).trans (uA_ne (by decide)))).trans ec183
        have z203 := tz_f (tk2_166)
        exact c_readPar_w_at_132p (X := X) (k := k) (hP := hP) (d := d) (Vs := Vs) (sb := sb) (pb := pb) (hvb := hvb) (c0 := c0) (c1 := c1) (G := G) (A := A) (T := T) (lv := lv) (ln := ln) (li := li) (at0 := at0) (fk := fk) (nd := nd) (sy := sy) (na := na) (vi := vi) (le := le) (op0 := op0) (tk0 := tk0) (ec := ec) (hd := hd) (hW := hW) (e_ln := e_ln) (e_li := e_li) (e_at0 := e_at0) (e_fk := e_fk) (e_nd := e_nd) (e_sy := e_sy) (e_na := e_na) (e_vi := e_vi) (e_le := e_le) (e_op0 := e_op0) (e_tk0 := e_tk0) (e_ec := e_ec) (i_LT := i_LT) (i_SV := i_SV) (i_PQ := i_PQ) (h_lv := h_lv) (p_0 := p_0) (p_1 := p_1) (p_2 := p_2) (p_3 := p_3) (p_4 := p_4) (p_5 := p_5) (p_6 := p_6) (p_7 := p_7) (p_8 := p_8) (p_9 := p_9) (p_10 := p_10) L G162 A193 (n) (at2_165) (tk2_166) (fk2_167) (nd1) (op1) (sy1) (na1) (ec1) gL_0 gL_1 gL_2 hW194 hF195 hP197 hS198 hV199 ((e171)) ((e172)) ((e173)) (((hF169.1 31 rfl).trans ((hF138.1 31 rfl).trans (ex_nd1)))) (((hF169.1 15 rfl).trans ((hF138.1 15 rfl).trans (ex_op1)))) (((hF169.1 19 rfl).trans ((hF138.1 19 rfl).trans (ex_sy1)))) (((hF169.1 28 rfl).trans ((hF138.1 28 rfl).trans (ex_na1)))) (ec202) (((hF169.1 9 rfl).trans ((hF138.1 9 rfl).trans (fx_9)))) (((hF169.1 29 rfl).trans ((hF138.1 29 rfl).trans (fx_29)))) (by omega) (by omega) (by omega) (by omega) (by omega) (by omega) (by omega) (by omega) (by omega)
      · have _q : True := trivial
        have pz204 : at2_134 + tz tk2_166 ≤ at2_165 := by omega
        refine jr_st (pc' := 132) (i := 20) (m := 7000) (z := n) (y := r164) rfl (by decide) rfl (by decide) (by omega) (by omega) rfl ?_
        have hW206 : Wk G162 (uA A163 20 (n).toNat (r164)) := Wk_a hW168 (show (-2147483648 : Int) ≤ r164 by omega) (show r164 ≤ (2147483647 : Int) by omega)
        have hF207 := Fr_a (z := r164) (k := 20) (n := (n).toNat) hF177 (by decide)
        obtain ⟨A205, eA205⟩ : ∃ q, q = uA A163 20 (n).toNat (r164) := ⟨_, rfl⟩
        rw [← eA205]
        rw [← eA205] at hW206 hF207
        have q208 : A205 20 (n).toNat = r164 := by rw [eA205]; exact uA_eq
        have hP209 : Pf nd A A205 := eA205 ▸ Pf_a hP178 (z := n) (by omega) (by omega)
        have hS210 : Fx sr (sy) A A205 := eA205 ▸ Fx_n hS179 rfl
        have hV211 : Fx [14] (vi) A A205 := eA205 ▸ Fx_n hV180 rfl
        have sf212 : ND A205 (n) (29) (sa1) (0) (exc) (r164) (0) (0) := ND_d eA205 sf181
        have sf213 : NdO A205 (nd) (nd1) (sy) (n) := NdO_st eA205 (by decide) sf182
        have ec214 : ecn A205 (G162 31) = ec1 := (ecn_e ((congrFun eA205 15).trans (uA_ne (by decide)))).trans ec183
        refine jx_ld (pc' := 133) (l' := L) (st' := [.ref 66]) rfl (jl_aloadn gL_0) ?_
        refine jx_vr (pc' := 136) (as := []) (st := []) rfl rfl rfl rfl ⟨rfl, rfl, Nat.le_of_ble_eq_true rfl⟩ rfl rfl (c_endLine (dd := d) (hd := by omega) (hW := hW206)  (ln := ln) (e_ln := show G162 9 = ln from ((hF169.1 9 rfl).trans ((hF138.1 9 rfl).trans (fx_9)))) (li := li) (e_li := show G162 3 = li from ((hF169.1 3 rfl).trans ((hF138.1 3 rfl).trans ((hFx.1 3 rfl).trans (e_li))))) (fk := fk2_167) (e_fk := show G162 16 = fk2_167 from (e173)) (tk0 := tk2_166) (e_tk0 := show G162 11 = tk2_166 from (e172))    (p_0 := by omega)) (fun o V' hq => ?_)
        obtain ⟨G215, A216, ln2_217, fk2_218, rfl, rfl, hW219, hF220, e221, e222, q223⟩ := hq
        have hF224 := Fr_tr hF207 hF220 (Fr_sub (by decide)) (Fr_sub (by decide))
        have hP225 := Pf_f hP209 hF220 (by decide)
        have hS226 := Fx_f hS210 hF220 (by decide)
        have hV227 := Fx_f hV211 hF220 (by decide)
        have sf228 : ND A216 (n) (29) (sa1) (0) (exc) (r164) (0) (0) := ND_ag (by omega) (Ag_fr hF220 (by decide)) sf212
        have sf229 : NdO A216 (nd) (nd1) (sy) (n) := NdO_f hF220 (by decide) sf213
        have ec230 : ecn A216 (G215 31) = ec1 := (ecn_f (hF220.2 15 rfl) (hF220.1 31 rfl)).trans ec214
        have bln2_217 : (0 : Int) ≤ ln2_217 ∧ ln2_217 ≤ 3000 := e221 ▸ hW219.1 9
        have bfk2_218 : (0 : Int) ≤ fk2_218 ∧ fk2_218 ≤ 6 := e222 ▸ hW219.1 16
        refine .inl ⟨rfl, ?_⟩
        rcases q223 with ⟨a231, a232, a233, a234, a235⟩ | ⟨a236, a237⟩
        · have _q : True := trivial
          have b238 : (0 : Int) ≤ A 3 (ln2_217).toNat ∧ A 3 (ln2_217).toNat ≤ 3000 := hW.2 3 _
          have lt239 : ln2_217 < li → le < A 3 (ln2_217).toNat := fun hh => LT_nx (LT_ext (((hF220.1 3 rfl).trans ((hF169.1 3 rfl).trans ((hF138.1 3 rfl).trans (hFx.1 3 rfl))))) (((hF220.2 3 rfl).trans (((congrFun eA205 3).trans (uA_ne (by decide))).trans ((hF169.2 3 rfl).trans ((hF138.2 3 rfl).trans (hFx.2 3 rfl)))))) (((hF220.2 4 rfl).trans (((congrFun eA205 4).trans (uA_ne (by decide))).trans ((hF169.2 4 rfl).trans ((hF138.2 4 rfl).trans (hFx.2 4 rfl)))))) i_LT) (show G215 3 = li from ((hF220.1 3 rfl).trans ((hF169.1 3 rfl).trans ((hF138.1 3 rfl).trans ((hFx.1 3 rfl).trans (e_li)))))) (show A216 4 (ln).toNat = le from (congrFun ((hF220.2 4 rfl).trans (((congrFun eA205 4).trans (uA_ne (by decide))).trans ((hF169.2 4 rfl).trans ((hF138.2 4 rfl).trans (hFx.2 4 rfl))))) _).trans (e_le)) (show A216 3 (ln2_217).toNat = A 3 (ln2_217).toNat from (congrFun ((hF220.2 3 rfl).trans (((congrFun eA205 3).trans (uA_ne (by decide))).trans ((hF169.2 3 rfl).trans ((hF138.2 3 rfl).trans (hFx.2 3 rfl))))) _)) (show ln2_217 = ln + 1 by omega) (by omega) hh
          refine jx_ld (pc' := 137) (l' := L) (st' := [.ref 66]) rfl (jl_aloadn gL_0) ?_
          refine jx_ld (pc' := 138) (l' := L) (st' := [.int (i32 (n)), .ref 66]) rfl (jl_iloadn gL_2) ?_
          refine jx_ld (pc' := 139) (l' := L) (st' := [.int (i32 (lv)), .int (i32 (n)), .ref 66]) rfl (jl_iloadn gL_1) ?_
          refine jx_vr (pc' := 142) (as := [.int (i32 (n)), .int (i32 (lv))]) (st := []) rfl rfl rfl rfl ⟨rfl, rfl, Nat.le_of_ble_eq_true rfl⟩ rfl rfl (c_readIndexed_w (dd := d) (hP := hP) (zz := nd) (hd := by omega) (hW := hW219) (n := n) (lv := lv) (kk := 29) (bb := 0) (cc := exc) (de := r164) (xx := 0) (ln := ln2_217) (e_ln := show G215 9 = ln2_217 from (e221)) (li := li) (e_li := show G215 3 = li from ((hF220.1 3 rfl).trans ((hF169.1 3 rfl).trans ((hF138.1 3 rfl).trans ((hFx.1 3 rfl).trans (e_li)))))) (at0 := at2_165) (e_at0 := show G215 10 = at2_165 from ((hF220.1 10 rfl).trans (e171))) (fk := fk2_218) (e_fk := show G215 16 = fk2_218 from (e222)) (nd := nd1) (e_nd := show G215 31 = nd1 from ((hF220.1 31 rfl).trans ((hF169.1 31 rfl).trans ((hF138.1 31 rfl).trans (ex_nd1))))) (sy := sy1) (e_sy := show G215 19 = sy1 from ((hF220.1 19 rfl).trans ((hF169.1 19 rfl).trans ((hF138.1 19 rfl).trans (ex_sy1))))) (na := na1) (e_na := show G215 28 = na1 from ((hF220.1 28 rfl).trans ((hF169.1 28 rfl).trans ((hF138.1 28 rfl).trans (ex_na1))))) (vi := vi) (e_vi := show G215 29 = vi from ((hF220.1 29 rfl).trans ((hF169.1 29 rfl).trans ((hF138.1 29 rfl).trans (fx_29))))) (lf := A 3 (ln2_217).toNat) (e_lf := show A216 3 (ln2_217).toNat = A 3 (ln2_217).toNat from (congrFun ((hF220.2 3 rfl).trans (((congrFun eA205 3).trans (uA_ne (by decide))).trans ((hF169.2 3 rfl).trans ((hF138.2 3 rfl).trans (hFx.2 3 rfl))))) _)) (sa := sa1) (e_sa := show A216 17 (n).toNat = sa1 from (congrFun ((hF220.2 17 rfl).trans (((congrFun eA205 17).trans (uA_ne (by decide))).trans ((hF169.2 17 rfl).trans (hF138.2 17 rfl)))) _).trans (ex_sa1)) (ksa := ka1) (e_ksa := show A216 7 (sa1).toNat = ka1 from (congrFun ((hF220.2 7 rfl).trans (((congrFun eA205 7).trans (uA_ne (by decide))).trans ((hF169.2 7 rfl).trans (hF138.2 7 rfl)))) _).trans (ex_ka1)) (ec := ec1) (e_ec := show ecn A216 (G215 31) = ec1 from ec230) (i_LT := (LT_ext (((hF220.1 3 rfl).trans ((hF169.1 3 rfl).trans ((hF138.1 3 rfl).trans (hFx.1 3 rfl))))) (((hF220.2 3 rfl).trans (((congrFun eA205 3).trans (uA_ne (by decide))).trans ((hF169.2 3 rfl).trans ((hF138.2 3 rfl).trans (hFx.2 3 rfl)))))) (((hF220.2 4 rfl).trans (((congrFun eA205 4).trans (uA_ne (by decide))).trans ((hF169.2 4 rfl).trans ((hF138.2 4 rfl).trans (hFx.2 4 rfl)))))) i_LT)) (i_SV := (SV_fx i_SV e_vi (show G215 29 = vi from ((hF220.1 29 rfl).trans ((hF169.1 29 rfl).trans ((hF138.1 29 rfl).trans (fx_29))))) (by omega) hV227)) (i_PQ := (PQ_fx i_PQ hS226 (by omega) (hF224.2 29 rfl) (hF224.2 30 rfl))) (hvb := hvb) (h_n := ⟨(Int.le_trans (by decide : (-2147483648 : Int) ≤ -2147483648) rx_n.1), (Int.le_trans rx_n.2 (by decide : (2147483647 : Int) ≤ 2147483647))⟩) (h_lv := ⟨(Int.le_trans (by decide : (-2147483648 : Int) ≤ -2147483648) h_lv.1), (Int.le_trans h_lv.2 (by decide : (2147483647 : Int) ≤ 2147483647))⟩)  (p_0 := by omega) (p_1 := by omega) (p_2 := by omega) (p_3 := by omega) (p_4 := by omega) (p_5 := by omega) (p_6 := by omega) (p_7 := by omega) (p_8 := by omega) (p_9 := by omega) (p_10 := by omega) (p_11 := by omega) (p_12 := by omega) (p_13 := by omega) (p_14 := by omega) (p_15 := by omega) (p_16 := sf228) (p_17 := (NdO_w sf229 (by omega) (by omega) (by omega)))) (fun o V' hq => ?_)
          obtain ⟨G240, A241, ln2_242, at2_243, fk2_244, nd2_245, sy2_246, na2_247, vi2_248, lf2_249, f2_250, ec2_251, rfl, rfl, hW252, hF253, hQ254, hQ255, hQ256, hQ257, e258, e259, e260, e261, e262, e263, e264, e265, e266, e267, p268, p269, p270, p271, p272, p273, p274, q275⟩ := hq
          have hF276 := Fr_tr hF224 hF253 (Fr_sub (by decide)) (Fr_sub (by decide))
          have hP277 := Pf_tr hP225 hQ254 (by omega)
          have hS278 := Fx_tr hS226 hQ256 (by omega)
          have hV279 := Fx_tr hV227 hQ257 (by omega)
          have k280 : A241 7 (sa1).toNat = ka1 := (hQ256 7 _ rfl (by omega)).trans (show A216 7 (sa1).toNat = ka1 from (congrFun ((hF220.2 7 rfl).trans (((congrFun eA205 7).trans (uA_ne (by decide))).trans ((hF169.2 7 rfl).trans (hF138.2 7 rfl)))) _).trans (ex_ka1))
          have sf281 : NdM A241 (n + 1) (nd1) (sy) := NdM_px hQ255 (by omega) (by omega) (by omega) (NdO_r (lo' := n + 1) (by omega) (by omega) sf229)
          have bln2_242 : (0 : Int) ≤ ln2_242 ∧ ln2_242 ≤ 3000 := e258 ▸ hW252.1 9
          have bat2_243 : (0 : Int) ≤ at2_243 ∧ at2_243 ≤ 3002 := e259 ▸ hW252.1 10
          have bfk2_244 : (0 : Int) ≤ fk2_244 ∧ fk2_244 ≤ 6 := e260 ▸ hW252.1 16
          have bnd2_245 : (0 : Int) ≤ nd2_245 ∧ nd2_245 ≤ 6999 := e261 ▸ hW252.1 31
          have bsy2_246 : (0 : Int) ≤ sy2_246 ∧ sy2_246 ≤ 202 := e262 ▸ hW252.1 19
          have bna2_247 : (0 : Int) ≤ na2_247 ∧ na2_247 ≤ 200 := e263 ▸ hW252.1 28
          have bvi2_248 : (0 : Int) ≤ vi2_248 ∧ vi2_248 ≤ 202 := e264 ▸ hW252.1 29
          have blf2_249 : (0 : Int) ≤ lf2_249 ∧ lf2_249 ≤ 3000 := e265 ▸ hW252.2 3 _
          have bf2_250 : (-2147483648 : Int) ≤ f2_250 ∧ f2_250 ≤ 2147483647 := e266 ▸ hW252.2 21 _
          refine .inr ⟨_, rfl, ?_⟩
          rcases q275 with ⟨a282, a283⟩ | ⟨a284, a285, a286, a287, a288, a289, a290, a291, a292⟩
          · have _q : True := trivial
            refine jx_rt (v := some (.int (i32 (n)))) rfl rfl rfl rfl rfl rfl ?_
            exact ⟨_, _, _, ln2_242, at2_243, fk2_244, nd2_245, sy2_246, na2_247, vi2_248, lf2_249, ec2_251, rfl, rfl, hW252, hF276, hP277, hS278, hV279, by omega, (e258), (e259), (e260), (e261), (e262), (e263), (e264), (e265), e267, by omega, by omega, by omega, by omega, by omega, by omega, by omega, by omega, by omega, by omega, by first | exact Or.inl (⟨by omega, by omega⟩)⟩
          · have _q : True := trivial
            refine jx_rt (v := some (.int (i32 (n)))) rfl rfl rfl rfl rfl rfl ?_
            exact ⟨_, _, _, ln2_242, at2_243, fk2_244, nd2_245, sy2_246, na2_247, vi2_248, lf2_249, ec2_251, rfl, rfl, hW252, hF276, hP277, hS278, hV279, by omega, (e258), (e259), (e260), (e261), (e262), (e263), (e264), (e265), e267, by omega, by omega, by omega, by omega, by omega, by omega, by omega, by omega, by omega, by omega, by first | exact Or.inr ((⟨by omega, by omega, by omega, by omega, by omega, by omega, by omega, (wS_parfor (ND_ae a288 (by omega : sa1 = sy)) (by omega) (by rw [← (by omega : sa1 = sy)]; exact (show A241 7 (sa1).toNat = ka1 from (k280)).trans (by omega)) (by omega) (by omega) (by omega) (by omega) (wP_vu (by omega : sa1 = sy) (wP_eq a289 (by omega) rfl (by omega) (by omega) (by omega) (by omega) (by omega) (by omega)))), (NX_nd a288), by omega, (NdO_w (NdO_app (sy := sy) a291 (NdO_app (sy := sy) (NdO_m (r := n) sf281) (NdO_m (r := n) a292) (by omega) (by omega) (by omega)) (by omega) (by omega) (by omega)) (by omega) (by omega) (by omega))⟩))⟩
        · have _q : True := trivial
          refine jx_ld (pc' := 137) (l' := L) (st' := [.ref 66]) rfl (jl_aloadn gL_0) ?_
          refine jx_ld (pc' := 138) (l' := L) (st' := [.int (i32 (n)), .ref 66]) rfl (jl_iloadn gL_2) ?_
          refine jx_ld (pc' := 139) (l' := L) (st' := [.int (i32 (lv)), .int (i32 (n)), .ref 66]) rfl (jl_iloadn gL_1) ?_
          refine jx_vr (pc' := 142) (as := [.int (i32 (n)), .int (i32 (lv))]) (st := []) rfl rfl rfl rfl ⟨rfl, rfl, Nat.le_of_ble_eq_true rfl⟩ rfl rfl (c_readIndexed_f (dd := d) (hd := by omega) (hW := hW219) (n := n) (lv := lv) (fk := fk2_218) (e_fk := show G215 16 = fk2_218 from (e222))  (h_n := ⟨(Int.le_trans (by decide : (-2147483648 : Int) ≤ -2147483648) rx_n.1), (Int.le_trans rx_n.2 (by decide : (2147483647 : Int) ≤ 2147483647))⟩) (h_lv := ⟨(Int.le_trans (by decide : (-2147483648 : Int) ≤ -2147483648) h_lv.1), (Int.le_trans h_lv.2 (by decide : (2147483647 : Int) ≤ 2147483647))⟩)  (p_0 := by omega)) (fun o V' hq => ?_)
          obtain ⟨r293, rfl, rfl, b294, p295, -⟩ := hq
          refine .inr ⟨_, rfl, ?_⟩
          refine jx_rt (v := some (.int (i32 (r293)))) rfl rfl rfl rfl rfl rfl ?_
          exact ⟨_, _, _, ln2_217, at2_165, fk2_218, nd1, sy1, na1, vi, A 3 (ln2_217).toNat, ec1, rfl, rfl, hW219, hF224, hP225, hS226, hV227, by omega, (e221), ((hF220.1 10 rfl).trans (e171)), (e222), ((hF220.1 31 rfl).trans ((hF169.1 31 rfl).trans ((hF138.1 31 rfl).trans (ex_nd1)))), ((hF220.1 19 rfl).trans ((hF169.1 19 rfl).trans ((hF138.1 19 rfl).trans (ex_sy1)))), ((hF220.1 28 rfl).trans ((hF169.1 28 rfl).trans ((hF138.1 28 rfl).trans (ex_na1)))), ((hF220.1 29 rfl).trans ((hF169.1 29 rfl).trans ((hF138.1 29 rfl).trans (fx_29)))), (congrFun ((hF220.2 3 rfl).trans (((congrFun eA205 3).trans (uA_ne (by decide))).trans ((hF169.2 3 rfl).trans ((hF138.2 3 rfl).trans (hFx.2 3 rfl))))) _), ec230, by omega, by omega, by omega, by omega, by omega, by omega, by omega, by omega, by omega, by omega, by first | exact Or.inl (⟨by omega, by omega⟩)⟩
  · have _q : True := trivial
    refine jx_vr (pc' := 119) (as := [.int (i32 (0))]) (st := []) rfl rfl rfl rfl ⟨rfl, rfl, Nat.le_of_ble_eq_true rfl⟩ rfl rfl (c_need (dd := d) (hd := by omega) (hW := hWx) (g := 0) (ln := ln) (e_ln := show Gx 9 = ln from (fx_9)) (le := le) (e_le := show Ax 4 (ln).toNat = le from (congrFun (hFx.2 4 rfl) _).trans (e_le)) (at0 := at1) (e_at0 := show Gx 10 = at1 from (ex_at1)) (fk := fk1) (e_fk := show Gx 16 = fk1 from (ex_fk1)) (tk0 := tk1) (e_tk0 := show Gx 11 = tk1 from (ex_tk1))  (h_g := ⟨(by decide), (by decide)⟩)  (p_0 := by omega)) (fun o V' hq => ?_)
    obtain ⟨G297, A298, at2_299, tk2_300, fk2_301, rfl, rfl, hW302, hF303, e304, e305, e306, p307, p308, q309⟩ := hq
    have hF310 := Fr_tr hFx hF303 (Fr_sub (by decide)) (Fr_sub (by decide))
    have hP311 := Pf_f hPx hF303 (by decide)
    have hS312 := Fx_f hSx hF303 (by decide)
    have hV313 := Fx_f hVx hF303 (by decide)
    have sf314 : ND A298 (n) (29) (sa1) (0) (exc) (0) (0) (0) := ND_ag (by omega) (Ag_fr hF303 (by decide)) iv_11
    have sf315 : NdO A298 (nd) (nd1) (sy) (n) := NdO_f hF303 (by decide) iv_15
    have ec316 : ecn A298 (G297 31) = ec1 := (ecn_f (hF303.2 15 rfl) (hF303.1 31 rfl)).trans ex_ec1
    have bat2_299 : (0 : Int) ≤ at2_299 ∧ at2_299 ≤ 3002 := e304 ▸ hW302.1 10
    have ztk2_300 := tz_b tk2_300
    have btk2_300 : (0 : Int) ≤ tk2_300 ∧ tk2_300 ≤ 5 := e305 ▸ hW302.1 11
    have bfk2_301 : (0 : Int) ≤ fk2_301 ∧ fk2_301 ≤ 6 := e306 ▸ hW302.1 16
    refine .inl ⟨rfl, ?_⟩
    rcases q309 with ⟨a317, a318, a319, a320⟩ | ⟨a321, a322, a323, a324⟩
    · have _q : True := trivial
      have z325 := tz_f (tk2_300)
      exact c_readPar_w_at_119p (X := X) (k := k) (hP := hP) (d := d) (Vs := Vs) (sb := sb) (pb := pb) (hvb := hvb) (c0 := c0) (c1 := c1) (G := G) (A := A) (T := T) (lv := lv) (ln := ln) (li := li) (at0 := at0) (fk := fk) (nd := nd) (sy := sy) (na := na) (vi := vi) (le := le) (op0 := op0) (tk0 := tk0) (ec := ec) (hd := hd) (hW := hW) (e_ln := e_ln) (e_li := e_li) (e_at0 := e_at0) (e_fk := e_fk) (e_nd := e_nd) (e_sy := e_sy) (e_na := e_na) (e_vi := e_vi) (e_le := e_le) (e_op0 := e_op0) (e_tk0 := e_tk0) (e_ec := e_ec) (i_LT := i_LT) (i_SV := i_SV) (i_PQ := i_PQ) (h_lv := h_lv) (p_0 := p_0) (p_1 := p_1) (p_2 := p_2) (p_3 := p_3) (p_4 := p_4) (p_5 := p_5) (p_6 := p_6) (p_7 := p_7) (p_8 := p_8) (p_9 := p_9) (p_10 := p_10) L G297 A298 (n) (at2_299) (tk2_300) (fk2_301) (nd1) (op1) (sy1) (na1) (ec1) gL_0 gL_1 gL_2 hW302 hF310 hP311 hS312 hV313 ((e304)) ((e305)) ((e306)) (((hF303.1 31 rfl).trans (ex_nd1))) (((hF303.1 15 rfl).trans (ex_op1))) (((hF303.1 19 rfl).trans (ex_sy1))) (((hF303.1 28 rfl).trans (ex_na1))) (ec316) (((hF303.1 9 rfl).trans (fx_9))) (((hF303.1 29 rfl).trans (fx_29))) (by omega) (by omega) (by omega) (by omega) (by omega) (by omega) (by omega) (by omega) (by omega)
    · have _q : True := trivial
      exfalso
      omega
set_option maxRecDepth 20000 in
set_option maxHeartbeats 4000000 in
theorem c_readPar_w_at_95p {X : jX} {k : Nat} (hP : RPw X k) {d : Nat} {Vs : Nat → Prop} {sb pb : Int} (hvb : VB Vs sb) {c0 c1 : jC} {G : Nat → Int} {A : Nat → Nat → Int} {T : jH} {lv : Int} {ln li at0 fk nd sy na vi le op0 tk0 ec : Int} (hd : 8 * k + 82 ≤ d + 1) (hW : Wk G A) (e_ln : G 9 = ln) (e_li : G 3 = li) (e_at0 : G 10 = at0) (e_fk : G 16 = fk) (e_nd : G 31 = nd) (e_sy : G 19 = sy) (e_na : G 28 = na) (e_vi : G 29 = vi) (e_le : A 4 (ln).toNat = le) (e_op0 : G 15 = op0) (e_tk0 : G 11 = tk0) (e_ec : ecn A (G 31) = ec) (i_LT : LT G A) (i_SV : SV Vs sb G A) (i_PQ : PQ Vs sb pb G A) (h_lv : (-2147483648 : Int) ≤ lv ∧ lv ≤ 2147483647) (p_0 : 0 ≤ lv ∧ lv ≤ 15) (p_1 : 18 - lv ≤ ((k + 1 : Nat) : Int)) (p_2 : fk = 0) (p_3 : ln < li) (p_4 : at0 ≤ le) (p_5 : op0 = 0) (p_6 : nd ≤ 2 * at0 - tz tk0 + 30) (p_7 : sy ≤ na + 2) (p_8 : vi ≤ sy) (p_9 : sb = sy) (p_10 : 1 ≤ tk0) : ∀ (L : jL) (Gx : Nat → Int) (Ax : Nat → Nat → Int) (n at1 tk1 fk1 nd1 op1 sy1 na1 ec1 : Int), jGet L 0 = some (.ref 66) → jGet L 1 = some (.int (i32 (lv))) → jGet L 2 = some (.int (i32 n)) → Wk Gx Ax → Fr [9, 10, 11, 12, 13, 14, 15, 16, 17, 18, 19, 28, 29, 31] [6, 7, 8, 9, 10, 11, 12, 14, 15, 16, 17, 18, 19, 20, 21, 22, 23, 24, 28] G A Gx Ax → Pf nd A Ax → Fx sr (sy) A Ax → Fx [14] (vi) A Ax → Gx 10 = at1 → Gx 11 = tk1 → Gx 16 = fk1 → Gx 31 = nd1 → Gx 15 = op1 → Gx 19 = sy1 → Gx 28 = na1 → ecn Ax (Gx 31) = ec1 → Gx 9 = ln → Gx 29 = vi → ((-2147483648 : Int) ≤ n ∧ n ≤ 2147483647) → (1 ≤ fk1) → (at0 ≤ at1) → (at1 ≤ le) → (nd ≤ n ∧ n ≤ 6998 ∧ n < nd1) → (sy ≤ sy1) → (sy1 ≤ na1 + 2) → (0 ≤ op1 ∧ op1 ≤ 9) → (nd1 - nd ≤ 2 * at1 - 2 * at0 + 8) → wj X d jm299 (95, L, [], rV c0 c1 Gx Ax T) (fun o V' => ∃ (G' : Nat → Int) (A' : Nat → Nat → Int) (r : Int) (ln2 : Int) (at2 : Int) (fk2 : Int) (nd2 : Int) (sy2 : Int) (na2 : Int) (vi2 : Int) (lf2 : Int) (ec2 : Int), V' = rV c0 c1 G' A' T ∧ o = .inl (some (.int (i32 r))) ∧ Wk G' A' ∧ Fr [9, 10, 11, 12, 13, 14, 15, 16, 17, 18, 19, 28, 29, 31] [6, 7, 8, 9, 10, 11, 12, 14, 15, 16, 17, 18, 19, 20, 21, 22, 23, 24, 28] G A G' A' ∧ Pf nd A A' ∧ Fx sr (sy) A A' ∧ Fx [14] (vi) A A' ∧ ((-2147483648 : Int) ≤ r ∧ r ≤ 2147483647) ∧ G' 9 = ln2 ∧ G' 10 = at2 ∧ G' 16 = fk2 ∧ G' 31 = nd2 ∧ G' 19 = sy2 ∧ G' 28 = na2 ∧ G' 29 = vi2 ∧ A' 3 (ln2).toNat = lf2 ∧ ecn A' (G' 31) = ec2 ∧ (at0 ≤ at2) ∧ (nd ≤ nd2) ∧ (sy ≤ sy2) ∧ (sy2 ≤ na2 + 2) ∧ (vi ≤ vi2) ∧ (vi2 ≤ vi + 1) ∧ (0 ≤ r) ∧ (r ≤ 6999) ∧ (ln ≤ ln2) ∧ (ln2 ≤ li) ∧ (((1 ≤ fk2) ∧ (nd2 - nd ≤ 2 * at2 - (2 * at0 - tz tk0) + 14)) ∨ ((fk2 = 0) ∧ (vi2 = vi) ∧ (ln < ln2) ∧ (nd2 - nd ≤ 2 * at2 - (2 * at0 - tz tk0)) ∧ (at2 < lf2 ∨ li ≤ ln2) ∧ (nd ≤ r) ∧ (r < nd2) ∧ (wSt A' (sy2) pb (wP A' (sy2) pb (k)) (Vs) (r) (nd) (nd2) (sy) (sy2)) ∧ (NX A' (r)) ∧ (nd2 - nd + 5 * (ec2 - ec) ≤ 2 * at2 - (2 * at0 - tz tk0)) ∧ (NdO A' (nd) (nd2) (sy) (r))))) := by
  have hF0 : Fr [9, 10, 11, 12, 13, 14, 15, 16, 17, 18, 19, 28, 29, 31] [6, 7, 8, 9, 10, 11, 12, 14, 15, 16, 17, 18, 19, 20, 21, 22, 23, 24, 28] G A G A := Fr_rf
  have hP0 : Pf nd A A := Pf_rf
  have hS0 : Fx sr (sy) A A := Fx_rf
  have hV0 : Fx [14] (vi) A A := Fx_rf
  have b_ln : (0 : Int) ≤ ln ∧ ln ≤ 3000 := e_ln ▸ hW.1 9
  have b_li : (0 : Int) ≤ li ∧ li ≤ 3000 := e_li ▸ hW.1 3
  have b_at0 : (0 : Int) ≤ at0 ∧ at0 ≤ 3002 := e_at0 ▸ hW.1 10
  have b_fk : (0 : Int) ≤ fk ∧ fk ≤ 6 := e_fk ▸ hW.1 16
  have b_nd : (0 : Int) ≤ nd ∧ nd ≤ 6999 := e_nd ▸ hW.1 31
  have b_sy : (0 : Int) ≤ sy ∧ sy ≤ 202 := e_sy ▸ hW.1 19
  have b_na : (0 : Int) ≤ na ∧ na ≤ 200 := e_na ▸ hW.1 28
  have b_vi : (0 : Int) ≤ vi ∧ vi ≤ 202 := e_vi ▸ hW.1 29
  have b_le : (0 : Int) ≤ le ∧ le ≤ 3000 := e_le ▸ hW.2 4 _
  have b_op0 : (-2147483648 : Int) ≤ op0 ∧ op0 ≤ 2147483647 := e_op0 ▸ hW.1 15
  have z_tk0 := tz_f tk0
  have b_tk0 : (0 : Int) ≤ tk0 ∧ tk0 ≤ 5 := e_tk0 ▸ hW.1 11
  intro L Gx Ax n at1 tk1 fk1 nd1 op1 sy1 na1 ec1 gL_0 gL_1 gL_2 hWx hFx hPx hSx hVx ex_at1 ex_tk1 ex_fk1 ex_nd1 ex_op1 ex_sy1 ex_na1 ex_ec1 fx_9 fx_29 rx_n iv_0 iv_1 iv_2 iv_3 iv_4 iv_5 iv_6 iv_7
  have b_at1 : (0 : Int) ≤ at1 ∧ at1 ≤ 3002 := ex_at1 ▸ hWx.1 10
  have z_tk1 := tz_f tk1
  have b_tk1 : (0 : Int) ≤ tk1 ∧ tk1 ≤ 5 := ex_tk1 ▸ hWx.1 11
  have b_fk1 : (0 : Int) ≤ fk1 ∧ fk1 ≤ 6 := ex_fk1 ▸ hWx.1 16
  have b_nd1 : (0 : Int) ≤ nd1 ∧ nd1 ≤ 6999 := ex_nd1 ▸ hWx.1 31
  have b_op1 : (-2147483648 : Int) ≤ op1 ∧ op1 ≤ 2147483647 := ex_op1 ▸ hWx.1 15
  have b_sy1 : (0 : Int) ≤ sy1 ∧ sy1 ≤ 202 := ex_sy1 ▸ hWx.1 19
  have b_na1 : (0 : Int) ≤ na1 ∧ na1 ≤ 200 := ex_na1 ▸ hWx.1 28
  refine jx_ld (pc' := 96) (l' := L) (st' := [.ref 66]) rfl (jl_aloadn gL_0) ?_
  refine jr_get (pc' := 99) (i := 36) (v := .ref 86) rfl rfl (by decide) rfl rfl ?_
  refine jx_ld (pc' := 100) (l' := L) (st' := [.int (i32 (n)), .ref 86]) rfl (jl_iloadn gL_2) ?_
  refine jx_ld (pc' := 101) (l' := L) (st' := [.ref 66, .int (i32 (n)), .ref 86]) rfl (jl_aloadn gL_0) ?_
  refine jx_ar (pc' := 102) (st' := [.int (i32 (0)), .ref 66, .int (i32 (n)), .ref 86]) rfl rfl rfl rfl ?_
  refine jx_hp (pc' := 105) (st' := [.int (i32 (2147483647)), .int (i32 (0)), .ref 66, .int (i32 (n)), .ref 86]) rfl rfl rfl rfl rfl rfl ?_
  refine jx_vr (pc' := 108) (as := [.int (i32 (0)), .int (i32 (2147483647))]) (st := [.int (i32 (n)), .ref 86]) rfl rfl rfl rfl ⟨rfl, rfl, Nat.le_of_ble_eq_true rfl⟩ rfl rfl (c_needNumber (dd := d) (hd := by omega) (hW := hWx) (lo := 0) (hi := 2147483647) (ln := ln) (e_ln := show Gx 9 = ln from (fx_9)) (le := le) (e_le := show Ax 4 (ln).toNat = le from (congrFun (hFx.2 4 rfl) _).trans (e_le)) (at0 := at1) (e_at0 := show Gx 10 = at1 from (ex_at1)) (fk := fk1) (e_fk := show Gx 16 = fk1 from (ex_fk1)) (tk0 := tk1) (e_tk0 := show Gx 11 = tk1 from (ex_tk1))  (h_lo := ⟨(by decide), (by decide)⟩) (h_hi := ⟨(by decide), (by decide)⟩)  (p_0 := by omega)) (fun o V' hq => ?_)
  obtain ⟨G326, A327, r328, at2_329, tk2_330, fk2_331, rfl, rfl, hW332, hF333, b334, e335, e336, e337, p338, p339, q340⟩ := hq
  have hF341 := Fr_tr hFx hF333 (Fr_sub (by decide)) (Fr_sub (by decide))
  have hP342 := Pf_f hPx hF333 (by decide)
  have hS343 := Fx_f hSx hF333 (by decide)
  have hV344 := Fx_f hVx hF333 (by decide)
  have ec345 : ecn A327 (G326 31) = ec1 := (ecn_f (hF333.2 15 rfl) (hF333.1 31 rfl)).trans ex_ec1
  have bat2_329 : (0 : Int) ≤ at2_329 ∧ at2_329 ≤ 3002 := e335 ▸ hW332.1 10
  have ztk2_330 := tz_b tk2_330
  have btk2_330 : (0 : Int) ≤ tk2_330 ∧ tk2_330 ≤ 5 := e336 ▸ hW332.1 11
  have bfk2_331 : (0 : Int) ≤ fk2_331 ∧ fk2_331 ≤ 6 := e337 ▸ hW332.1 16
  refine .inr ⟨_, rfl, ?_⟩
  rcases q340 with ⟨a346, a347, a348, a349⟩ | ⟨a350, a351, a352, a353, a354⟩
  · have _q : True := trivial
    refine jr_st (pc' := 109) (i := 19) (m := 7000) (z := n) (y := r328) rfl (by decide) rfl (by decide) (by omega) (by omega) rfl ?_
    have hW356 : Wk G326 (uA A327 19 (n).toNat (r328)) := Wk_a hW332 (show (-2147483648 : Int) ≤ r328 by omega) (show r328 ≤ (2147483647 : Int) by omega)
    have hF357 := Fr_a (z := r328) (k := 19) (n := (n).toNat) hF341 (by decide)
    obtain ⟨A355, eA355⟩ : ∃ q, q = uA A327 19 (n).toNat (r328) := ⟨_, rfl⟩
    rw [← eA355]
    rw [← eA355] at hW356 hF357
    have q358 : A355 19 (n).toNat = r328 := by rw [eA355]; exact uA_eq
    have hP359 : Pf nd A A355 := eA355 ▸ Pf_a hP342 (z := n) (by omega) (by omega)
    have hS360 : Fx sr (sy) A A355 := eA355 ▸ Fx_n hS343 rfl
    have hV361 : Fx [14] (vi) A A355 := eA355 ▸ Fx_n hV344 rfl
    have ec362 : ecn A355 (G326 31) = ec1 := (ecn_e ((congrFun eA355 15).trans (uA_ne (by decide)))).trans ec345
    have z363 := tz_f (tk2_330)
    exact c_readPar_w_at_109p (X := X) (k := k) (hP := hP) (d := d) (Vs := Vs) (sb := sb) (pb := pb) (hvb := hvb) (c0 := c0) (c1 := c1) (G := G) (A := A) (T := T) (lv := lv) (ln := ln) (li := li) (at0 := at0) (fk := fk) (nd := nd) (sy := sy) (na := na) (vi := vi) (le := le) (op0 := op0) (tk0 := tk0) (ec := ec) (hd := hd) (hW := hW) (e_ln := e_ln) (e_li := e_li) (e_at0 := e_at0) (e_fk := e_fk) (e_nd := e_nd) (e_sy := e_sy) (e_na := e_na) (e_vi := e_vi) (e_le := e_le) (e_op0 := e_op0) (e_tk0 := e_tk0) (e_ec := e_ec) (i_LT := i_LT) (i_SV := i_SV) (i_PQ := i_PQ) (h_lv := h_lv) (p_0 := p_0) (p_1 := p_1) (p_2 := p_2) (p_3 := p_3) (p_4 := p_4) (p_5 := p_5) (p_6 := p_6) (p_7 := p_7) (p_8 := p_8) (p_9 := p_9) (p_10 := p_10) L G326 A355 (n) (at2_329) (tk2_330) (fk2_331) (nd1) (op1) (sy1) (na1) (ec1) gL_0 gL_1 gL_2 hW356 hF357 hP359 hS360 hV361 ((e335)) ((e336)) ((e337)) (((hF333.1 31 rfl).trans (ex_nd1))) (((hF333.1 15 rfl).trans (ex_op1))) (((hF333.1 19 rfl).trans (ex_sy1))) (((hF333.1 28 rfl).trans (ex_na1))) (ec362) (((hF333.1 9 rfl).trans (fx_9))) (((hF333.1 29 rfl).trans (fx_29))) (by omega) (by omega) (by omega) (by omega) (by omega) (by omega) (by omega) (by omega) (by omega)
  · have _q : True := trivial
    exfalso
    omega
set_option maxRecDepth 20000 in
set_option maxHeartbeats 4000000 in
theorem c_readPar_w_at_95 {X : jX} {k : Nat} (hP : RPw X k) {d : Nat} {Vs : Nat → Prop} {sb pb : Int} (hvb : VB Vs sb) {c0 c1 : jC} {G : Nat → Int} {A : Nat → Nat → Int} {T : jH} {lv : Int} {ln li at0 fk nd sy na vi le op0 tk0 ec : Int} (hd : 8 * k + 82 ≤ d + 1) (hW : Wk G A) (e_ln : G 9 = ln) (e_li : G 3 = li) (e_at0 : G 10 = at0) (e_fk : G 16 = fk) (e_nd : G 31 = nd) (e_sy : G 19 = sy) (e_na : G 28 = na) (e_vi : G 29 = vi) (e_le : A 4 (ln).toNat = le) (e_op0 : G 15 = op0) (e_tk0 : G 11 = tk0) (e_ec : ecn A (G 31) = ec) (i_LT : LT G A) (i_SV : SV Vs sb G A) (i_PQ : PQ Vs sb pb G A) (h_lv : (-2147483648 : Int) ≤ lv ∧ lv ≤ 2147483647) (p_0 : 0 ≤ lv ∧ lv ≤ 15) (p_1 : 18 - lv ≤ ((k + 1 : Nat) : Int)) (p_2 : fk = 0) (p_3 : ln < li) (p_4 : at0 ≤ le) (p_5 : op0 = 0) (p_6 : nd ≤ 2 * at0 - tz tk0 + 30) (p_7 : sy ≤ na + 2) (p_8 : vi ≤ sy) (p_9 : sb = sy) (p_10 : 1 ≤ tk0) : ∀ (L : jL) (Gx : Nat → Int) (Ax : Nat → Nat → Int) (n at1 tk1 fk1 nd1 op1 sy1 na1 sa1 ka1 ec1 : Int), jGet L 0 = some (.ref 66) → jGet L 1 = some (.int (i32 (lv))) → jGet L 2 = some (.int (i32 n)) → Wk Gx Ax → Fr [9, 10, 11, 12, 13, 14, 15, 16, 17, 18, 19, 28, 29, 31] [6, 7, 8, 9, 10, 11, 12, 14, 15, 16, 17, 18, 19, 20, 21, 22, 23, 24, 28] G A Gx Ax → Pf nd A Ax → Fx sr (sy) A Ax → Fx [14] (vi) A Ax → Gx 10 = at1 → Gx 11 = tk1 → Gx 16 = fk1 → Gx 31 = nd1 → Gx 15 = op1 → Gx 19 = sy1 → Gx 28 = na1 → Ax 17 (n).toNat = sa1 → Ax 7 (sa1).toNat = ka1 → ecn Ax (Gx 31) = ec1 → Gx 9 = ln → Gx 29 = vi → ((-2147483648 : Int) ≤ n ∧ n ≤ 2147483647) → (fk1 = 0) → (at0 ≤ at1) → (at1 ≤ le) → (n = nd) → (n ≤ 6998 ∧ n < nd1) → (sy1 = sy + 1) → (sa1 = sy) → (sy1 ≤ na1 + 2) → (op1 = 0) → (nd1 - nd ≤ (2 * at1 - tz tk1) - (2 * at0 - tz tk0)) → (ka1 = 10) → (nd1 = n + 1) → (ND Ax (n) (29) (sa1) (0) (0) (0) (0) (0)) → (nd1 - nd + 5 * (ec1 - ec) ≤ (2 * at1 - tz tk1) - (2 * at0 - tz tk0)) → (NdO Ax (nd) (nd1) (sy) (n)) → wj X d jm299 (95, L, [], rV c0 c1 Gx Ax T) (fun o V' => ∃ (G' : Nat → Int) (A' : Nat → Nat → Int) (r : Int) (ln2 : Int) (at2 : Int) (fk2 : Int) (nd2 : Int) (sy2 : Int) (na2 : Int) (vi2 : Int) (lf2 : Int) (ec2 : Int), V' = rV c0 c1 G' A' T ∧ o = .inl (some (.int (i32 r))) ∧ Wk G' A' ∧ Fr [9, 10, 11, 12, 13, 14, 15, 16, 17, 18, 19, 28, 29, 31] [6, 7, 8, 9, 10, 11, 12, 14, 15, 16, 17, 18, 19, 20, 21, 22, 23, 24, 28] G A G' A' ∧ Pf nd A A' ∧ Fx sr (sy) A A' ∧ Fx [14] (vi) A A' ∧ ((-2147483648 : Int) ≤ r ∧ r ≤ 2147483647) ∧ G' 9 = ln2 ∧ G' 10 = at2 ∧ G' 16 = fk2 ∧ G' 31 = nd2 ∧ G' 19 = sy2 ∧ G' 28 = na2 ∧ G' 29 = vi2 ∧ A' 3 (ln2).toNat = lf2 ∧ ecn A' (G' 31) = ec2 ∧ (at0 ≤ at2) ∧ (nd ≤ nd2) ∧ (sy ≤ sy2) ∧ (sy2 ≤ na2 + 2) ∧ (vi ≤ vi2) ∧ (vi2 ≤ vi + 1) ∧ (0 ≤ r) ∧ (r ≤ 6999) ∧ (ln ≤ ln2) ∧ (ln2 ≤ li) ∧ (((1 ≤ fk2) ∧ (nd2 - nd ≤ 2 * at2 - (2 * at0 - tz tk0) + 14)) ∨ ((fk2 = 0) ∧ (vi2 = vi) ∧ (ln < ln2) ∧ (nd2 - nd ≤ 2 * at2 - (2 * at0 - tz tk0)) ∧ (at2 < lf2 ∨ li ≤ ln2) ∧ (nd ≤ r) ∧ (r < nd2) ∧ (wSt A' (sy2) pb (wP A' (sy2) pb (k)) (Vs) (r) (nd) (nd2) (sy) (sy2)) ∧ (NX A' (r)) ∧ (nd2 - nd + 5 * (ec2 - ec) ≤ 2 * at2 - (2 * at0 - tz tk0)) ∧ (NdO A' (nd) (nd2) (sy) (r))))) := by
  have hF0 : Fr [9, 10, 11, 12, 13, 14, 15, 16, 17, 18, 19, 28, 29, 31] [6, 7, 8, 9, 10, 11, 12, 14, 15, 16, 17, 18, 19, 20, 21, 22, 23, 24, 28] G A G A := Fr_rf
  have hP0 : Pf nd A A := Pf_rf
  have hS0 : Fx sr (sy) A A := Fx_rf
  have hV0 : Fx [14] (vi) A A := Fx_rf
  have b_ln : (0 : Int) ≤ ln ∧ ln ≤ 3000 := e_ln ▸ hW.1 9
  have b_li : (0 : Int) ≤ li ∧ li ≤ 3000 := e_li ▸ hW.1 3
  have b_at0 : (0 : Int) ≤ at0 ∧ at0 ≤ 3002 := e_at0 ▸ hW.1 10
  have b_fk : (0 : Int) ≤ fk ∧ fk ≤ 6 := e_fk ▸ hW.1 16
  have b_nd : (0 : Int) ≤ nd ∧ nd ≤ 6999 := e_nd ▸ hW.1 31
  have b_sy : (0 : Int) ≤ sy ∧ sy ≤ 202 := e_sy ▸ hW.1 19
  have b_na : (0 : Int) ≤ na ∧ na ≤ 200 := e_na ▸ hW.1 28
  have b_vi : (0 : Int) ≤ vi ∧ vi ≤ 202 := e_vi ▸ hW.1 29
  have b_le : (0 : Int) ≤ le ∧ le ≤ 3000 := e_le ▸ hW.2 4 _
  have b_op0 : (-2147483648 : Int) ≤ op0 ∧ op0 ≤ 2147483647 := e_op0 ▸ hW.1 15
  have z_tk0 := tz_f tk0
  have b_tk0 : (0 : Int) ≤ tk0 ∧ tk0 ≤ 5 := e_tk0 ▸ hW.1 11
  intro L Gx Ax n at1 tk1 fk1 nd1 op1 sy1 na1 sa1 ka1 ec1 gL_0 gL_1 gL_2 hWx hFx hPx hSx hVx ex_at1 ex_tk1 ex_fk1 ex_nd1 ex_op1 ex_sy1 ex_na1 ex_sa1 ex_ka1 ex_ec1 fx_9 fx_29 rx_n iv_0 iv_1 iv_2 iv_3 iv_4 iv_5 iv_6 iv_7 iv_8 iv_9 iv_10 iv_11 iv_12 iv_13 iv_14
  have b_at1 : (0 : Int) ≤ at1 ∧ at1 ≤ 3002 := ex_at1 ▸ hWx.1 10
  have z_tk1 := tz_f tk1
  have b_tk1 : (0 : Int) ≤ tk1 ∧ tk1 ≤ 5 := ex_tk1 ▸ hWx.1 11
  have b_fk1 : (0 : Int) ≤ fk1 ∧ fk1 ≤ 6 := ex_fk1 ▸ hWx.1 16
  have b_nd1 : (0 : Int) ≤ nd1 ∧ nd1 ≤ 6999 := ex_nd1 ▸ hWx.1 31
  have b_op1 : (-2147483648 : Int) ≤ op1 ∧ op1 ≤ 2147483647 := ex_op1 ▸ hWx.1 15
  have b_sy1 : (0 : Int) ≤ sy1 ∧ sy1 ≤ 202 := ex_sy1 ▸ hWx.1 19
  have b_na1 : (0 : Int) ≤ na1 ∧ na1 ≤ 200 := ex_na1 ▸ hWx.1 28
  refine jx_ld (pc' := 96) (l' := L) (st' := [.ref 66]) rfl (jl_aloadn gL_0) ?_
  refine jr_get (pc' := 99) (i := 36) (v := .ref 86) rfl rfl (by decide) rfl rfl ?_
  refine jx_ld (pc' := 100) (l' := L) (st' := [.int (i32 (n)), .ref 86]) rfl (jl_iloadn gL_2) ?_
  refine jx_ld (pc' := 101) (l' := L) (st' := [.ref 66, .int (i32 (n)), .ref 86]) rfl (jl_aloadn gL_0) ?_
  refine jx_ar (pc' := 102) (st' := [.int (i32 (0)), .ref 66, .int (i32 (n)), .ref 86]) rfl rfl rfl rfl ?_
  refine jx_hp (pc' := 105) (st' := [.int (i32 (2147483647)), .int (i32 (0)), .ref 66, .int (i32 (n)), .ref 86]) rfl rfl rfl rfl rfl rfl ?_
  refine jx_vr (pc' := 108) (as := [.int (i32 (0)), .int (i32 (2147483647))]) (st := [.int (i32 (n)), .ref 86]) rfl rfl rfl rfl ⟨rfl, rfl, Nat.le_of_ble_eq_true rfl⟩ rfl rfl (c_needNumber (dd := d) (hd := by omega) (hW := hWx) (lo := 0) (hi := 2147483647) (ln := ln) (e_ln := show Gx 9 = ln from (fx_9)) (le := le) (e_le := show Ax 4 (ln).toNat = le from (congrFun (hFx.2 4 rfl) _).trans (e_le)) (at0 := at1) (e_at0 := show Gx 10 = at1 from (ex_at1)) (fk := fk1) (e_fk := show Gx 16 = fk1 from (ex_fk1)) (tk0 := tk1) (e_tk0 := show Gx 11 = tk1 from (ex_tk1))  (h_lo := ⟨(by decide), (by decide)⟩) (h_hi := ⟨(by decide), (by decide)⟩)  (p_0 := by omega)) (fun o V' hq => ?_)
  obtain ⟨G364, A365, r366, at2_367, tk2_368, fk2_369, rfl, rfl, hW370, hF371, b372, e373, e374, e375, p376, p377, q378⟩ := hq
  have hF379 := Fr_tr hFx hF371 (Fr_sub (by decide)) (Fr_sub (by decide))
  have hP380 := Pf_f hPx hF371 (by decide)
  have hS381 := Fx_f hSx hF371 (by decide)
  have hV382 := Fx_f hVx hF371 (by decide)
  have sf383 : ND A365 (n) (29) (sa1) (0) (0) (0) (0) (0) := ND_ag (by omega) (Ag_fr hF371 (by decide)) iv_12
  have sf384 : NdO A365 (nd) (nd1) (sy) (n) := NdO_f hF371 (by decide) iv_14
  have ec385 : ecn A365 (G364 31) = ec1 := (ecn_f (hF371.2 15 rfl) (hF371.1 31 rfl)).trans ex_ec1
  have bat2_367 : (0 : Int) ≤ at2_367 ∧ at2_367 ≤ 3002 := e373 ▸ hW370.1 10
  have ztk2_368 := tz_b tk2_368
  have btk2_368 : (0 : Int) ≤ tk2_368 ∧ tk2_368 ≤ 5 := e374 ▸ hW370.1 11
  have bfk2_369 : (0 : Int) ≤ fk2_369 ∧ fk2_369 ≤ 6 := e375 ▸ hW370.1 16
  refine .inr ⟨_, rfl, ?_⟩
  rcases q378 with ⟨a386, a387, a388, a389⟩ | ⟨a390, a391, a392, a393, a394⟩
  · have _q : True := trivial
    refine jr_st (pc' := 109) (i := 19) (m := 7000) (z := n) (y := r366) rfl (by decide) rfl (by decide) (by omega) (by omega) rfl ?_
    have hW396 : Wk G364 (uA A365 19 (n).toNat (r366)) := Wk_a hW370 (show (-2147483648 : Int) ≤ r366 by omega) (show r366 ≤ (2147483647 : Int) by omega)
    have hF397 := Fr_a (z := r366) (k := 19) (n := (n).toNat) hF379 (by decide)
    obtain ⟨A395, eA395⟩ : ∃ q, q = uA A365 19 (n).toNat (r366) := ⟨_, rfl⟩
    rw [← eA395]
    rw [← eA395] at hW396 hF397
    have q398 : A395 19 (n).toNat = r366 := by rw [eA395]; exact uA_eq
    have hP399 : Pf nd A A395 := eA395 ▸ Pf_a hP380 (z := n) (by omega) (by omega)
    have hS400 : Fx sr (sy) A A395 := eA395 ▸ Fx_n hS381 rfl
    have hV401 : Fx [14] (vi) A A395 := eA395 ▸ Fx_n hV382 rfl
    have sf402 : ND A395 (n) (29) (sa1) (0) (r366) (0) (0) (0) := ND_c eA395 sf383
    have sf403 : NdO A395 (nd) (nd1) (sy) (n) := NdO_st eA395 (by decide) sf384
    have ec404 : ecn A395 (G364 31) = ec1 := (ecn_e ((congrFun eA395 15).trans (uA_ne (by decide)))).trans ec385
    have z405 := tz_f (tk2_368)
    exact c_readPar_w_at_109p (X := X) (k := k) (hP := hP) (d := d) (Vs := Vs) (sb := sb) (pb := pb) (hvb := hvb) (c0 := c0) (c1 := c1) (G := G) (A := A) (T := T) (lv := lv) (ln := ln) (li := li) (at0 := at0) (fk := fk) (nd := nd) (sy := sy) (na := na) (vi := vi) (le := le) (op0 := op0) (tk0 := tk0) (ec := ec) (hd := hd) (hW := hW) (e_ln := e_ln) (e_li := e_li) (e_at0 := e_at0) (e_fk := e_fk) (e_nd := e_nd) (e_sy := e_sy) (e_na := e_na) (e_vi := e_vi) (e_le := e_le) (e_op0 := e_op0) (e_tk0 := e_tk0) (e_ec := e_ec) (i_LT := i_LT) (i_SV := i_SV) (i_PQ := i_PQ) (h_lv := h_lv) (p_0 := p_0) (p_1 := p_1) (p_2 := p_2) (p_3 := p_3) (p_4 := p_4) (p_5 := p_5) (p_6 := p_6) (p_7 := p_7) (p_8 := p_8) (p_9 := p_9) (p_10 := p_10) L G364 A395 (n) (at2_367) (tk2_368) (fk2_369) (nd1) (op1) (sy1) (na1) (ec1) gL_0 gL_1 gL_2 hW396 hF397 hP399 hS400 hV401 ((e373)) ((e374)) ((e375)) (((hF371.1 31 rfl).trans (ex_nd1))) (((hF371.1 15 rfl).trans (ex_op1))) (((hF371.1 19 rfl).trans (ex_sy1))) (((hF371.1 28 rfl).trans (ex_na1))) (ec404) (((hF371.1 9 rfl).trans (fx_9))) (((hF371.1 29 rfl).trans (fx_29))) (by omega) (by omega) (by omega) (by omega) (by omega) (by omega) (by omega) (by omega) (by omega)
  · have _q : True := trivial
    have pz406 : at1 + tz tk2_368 ≤ at2_367 := by omega
    refine jr_st (pc' := 109) (i := 19) (m := 7000) (z := n) (y := r366) rfl (by decide) rfl (by decide) (by omega) (by omega) rfl ?_
    have hW408 : Wk G364 (uA A365 19 (n).toNat (r366)) := Wk_a hW370 (show (-2147483648 : Int) ≤ r366 by omega) (show r366 ≤ (2147483647 : Int) by omega)
    have hF409 := Fr_a (z := r366) (k := 19) (n := (n).toNat) hF379 (by decide)
    obtain ⟨A407, eA407⟩ : ∃ q, q = uA A365 19 (n).toNat (r366) := ⟨_, rfl⟩
    rw [← eA407]
    rw [← eA407] at hW408 hF409
    have q410 : A407 19 (n).toNat = r366 := by rw [eA407]; exact uA_eq
    have hP411 : Pf nd A A407 := eA407 ▸ Pf_a hP380 (z := n) (by omega) (by omega)
    have hS412 : Fx sr (sy) A A407 := eA407 ▸ Fx_n hS381 rfl
    have hV413 : Fx [14] (vi) A A407 := eA407 ▸ Fx_n hV382 rfl
    have sf414 : ND A407 (n) (29) (sa1) (0) (r366) (0) (0) (0) := ND_c eA407 sf383
    have sf415 : NdO A407 (nd) (nd1) (sy) (n) := NdO_st eA407 (by decide) sf384
    have ec416 : ecn A407 (G364 31) = ec1 := (ecn_e ((congrFun eA407 15).trans (uA_ne (by decide)))).trans ec385
    have z417 := tz_f (tk2_368)
    exact c_readPar_w_at_109 (X := X) (k := k) (hP := hP) (d := d) (Vs := Vs) (sb := sb) (pb := pb) (hvb := hvb) (c0 := c0) (c1 := c1) (G := G) (A := A) (T := T) (lv := lv) (ln := ln) (li := li) (at0 := at0) (fk := fk) (nd := nd) (sy := sy) (na := na) (vi := vi) (le := le) (op0 := op0) (tk0 := tk0) (ec := ec) (hd := hd) (hW := hW) (e_ln := e_ln) (e_li := e_li) (e_at0 := e_at0) (e_fk := e_fk) (e_nd := e_nd) (e_sy := e_sy) (e_na := e_na) (e_vi := e_vi) (e_le := e_le) (e_op0 := e_op0) (e_tk0 := e_tk0) (e_ec := e_ec) (i_LT := i_LT) (i_SV := i_SV) (i_PQ := i_PQ) (h_lv := h_lv) (p_0 := p_0) (p_1 := p_1) (p_2 := p_2) (p_3 := p_3) (p_4 := p_4) (p_5 := p_5) (p_6 := p_6) (p_7 := p_7) (p_8 := p_8) (p_9 := p_9) (p_10 := p_10) L G364 A407 (n) (at2_367) (tk2_368) (fk2_369) (nd1) (op1) (sy1) (na1) (sa1) (ka1) (r366) (ec1) gL_0 gL_1 gL_2 hW408 hF409 hP411 hS412 hV413 ((e373)) ((e374)) ((e375)) (((hF371.1 31 rfl).trans (ex_nd1))) (((hF371.1 15 rfl).trans (ex_op1))) (((hF371.1 19 rfl).trans (ex_sy1))) (((hF371.1 28 rfl).trans (ex_na1))) ((congrFun (((congrFun eA407 17).trans (uA_ne (by decide))).trans (hF371.2 17 rfl)) _).trans (ex_sa1)) ((congrFun (((congrFun eA407 7).trans (uA_ne (by decide))).trans (hF371.2 7 rfl)) _).trans (ex_ka1)) ((q410)) (ec416) (((hF371.1 9 rfl).trans (fx_9))) (((hF371.1 29 rfl).trans (fx_29))) (by omega) (by omega) (by omega) (by omega) (by omega) (by omega) (by omega) (by omega) (by omega) (by omega) (by omega) (by omega) (sf414) (by omega) (by omega) (by omega) (sf415)
set_option maxRecDepth 20000 in
set_option maxHeartbeats 4000000 in
theorem c_readPar_w_at_85p {X : jX} {k : Nat} (hP : RPw X k) {d : Nat} {Vs : Nat → Prop} {sb pb : Int} (hvb : VB Vs sb) {c0 c1 : jC} {G : Nat → Int} {A : Nat → Nat → Int} {T : jH} {lv : Int} {ln li at0 fk nd sy na vi le op0 tk0 ec : Int} (hd : 8 * k + 82 ≤ d + 1) (hW : Wk G A) (e_ln : G 9 = ln) (e_li : G 3 = li) (e_at0 : G 10 = at0) (e_fk : G 16 = fk) (e_nd : G 31 = nd) (e_sy : G 19 = sy) (e_na : G 28 = na) (e_vi : G 29 = vi) (e_le : A 4 (ln).toNat = le) (e_op0 : G 15 = op0) (e_tk0 : G 11 = tk0) (e_ec : ecn A (G 31) = ec) (i_LT : LT G A) (i_SV : SV Vs sb G A) (i_PQ : PQ Vs sb pb G A) (h_lv : (-2147483648 : Int) ≤ lv ∧ lv ≤ 2147483647) (p_0 : 0 ≤ lv ∧ lv ≤ 15) (p_1 : 18 - lv ≤ ((k + 1 : Nat) : Int)) (p_2 : fk = 0) (p_3 : ln < li) (p_4 : at0 ≤ le) (p_5 : op0 = 0) (p_6 : nd ≤ 2 * at0 - tz tk0 + 30) (p_7 : sy ≤ na + 2) (p_8 : vi ≤ sy) (p_9 : sb = sy) (p_10 : 1 ≤ tk0) : ∀ (L : jL) (Gx : Nat → Int) (Ax : Nat → Nat → Int) (n at1 tk1 fk1 nd1 op1 sy1 na1 ec1 : Int), jGet L 0 = some (.ref 66) → jGet L 1 = some (.int (i32 (lv))) → jGet L 2 = some (.int (i32 n)) → Wk Gx Ax → Fr [9, 10, 11, 12, 13, 14, 15, 16, 17, 18, 19, 28, 29, 31] [6, 7, 8, 9, 10, 11, 12, 14, 15, 16, 17, 18, 19, 20, 21, 22, 23, 24, 28] G A Gx Ax → Pf nd A Ax → Fx sr (sy) A Ax → Fx [14] (vi) A Ax → Gx 10 = at1 → Gx 11 = tk1 → Gx 16 = fk1 → Gx 31 = nd1 → Gx 15 = op1 → Gx 19 = sy1 → Gx 28 = na1 → ecn Ax (Gx 31) = ec1 → Gx 9 = ln → Gx 29 = vi → ((-2147483648 : Int) ≤ n ∧ n ≤ 2147483647) → (1 ≤ fk1) → (at0 ≤ at1) → (at1 ≤ le) → (nd ≤ n ∧ n ≤ 6998 ∧ n < nd1) → (sy ≤ sy1) → (sy1 ≤ na1 + 2) → (0 ≤ op1 ∧ op1 ≤ 9) → (nd1 - nd ≤ 2 * at1 - 2 * at0 + 8) → wj X d jm299 (85, L, [], rV c0 c1 Gx Ax T) (fun o V' => ∃ (G' : Nat → Int) (A' : Nat → Nat → Int) (r : Int) (ln2 : Int) (at2 : Int) (fk2 : Int) (nd2 : Int) (sy2 : Int) (na2 : Int) (vi2 : Int) (lf2 : Int) (ec2 : Int), V' = rV c0 c1 G' A' T ∧ o = .inl (some (.int (i32 r))) ∧ Wk G' A' ∧ Fr [9, 10, 11, 12, 13, 14, 15, 16, 17, 18, 19, 28, 29, 31] [6, 7, 8, 9, 10, 11, 12, 14, 15, 16, 17, 18, 19, 20, 21, 22, 23, 24, 28] G A G' A' ∧ Pf nd A A' ∧ Fx sr (sy) A A' ∧ Fx [14] (vi) A A' ∧ ((-2147483648 : Int) ≤ r ∧ r ≤ 2147483647) ∧ G' 9 = ln2 ∧ G' 10 = at2 ∧ G' 16 = fk2 ∧ G' 31 = nd2 ∧ G' 19 = sy2 ∧ G' 28 = na2 ∧ G' 29 = vi2 ∧ A' 3 (ln2).toNat = lf2 ∧ ecn A' (G' 31) = ec2 ∧ (at0 ≤ at2) ∧ (nd ≤ nd2) ∧ (sy ≤ sy2) ∧ (sy2 ≤ na2 + 2) ∧ (vi ≤ vi2) ∧ (vi2 ≤ vi + 1) ∧ (0 ≤ r) ∧ (r ≤ 6999) ∧ (ln ≤ ln2) ∧ (ln2 ≤ li) ∧ (((1 ≤ fk2) ∧ (nd2 - nd ≤ 2 * at2 - (2 * at0 - tz tk0) + 14)) ∨ ((fk2 = 0) ∧ (vi2 = vi) ∧ (ln < ln2) ∧ (nd2 - nd ≤ 2 * at2 - (2 * at0 - tz tk0)) ∧ (at2 < lf2 ∨ li ≤ ln2) ∧ (nd ≤ r) ∧ (r < nd2) ∧ (wSt A' (sy2) pb (wP A' (sy2) pb (k)) (Vs) (r) (nd) (nd2) (sy) (sy2)) ∧ (NX A' (r)) ∧ (nd2 - nd + 5 * (ec2 - ec) ≤ 2 * at2 - (2 * at0 - tz tk0)) ∧ (NdO A' (nd) (nd2) (sy) (r))))) := by
  have hF0 : Fr [9, 10, 11, 12, 13, 14, 15, 16, 17, 18, 19, 28, 29, 31] [6, 7, 8, 9, 10, 11, 12, 14, 15, 16, 17, 18, 19, 20, 21, 22, 23, 24, 28] G A G A := Fr_rf
  have hP0 : Pf nd A A := Pf_rf
  have hS0 : Fx sr (sy) A A := Fx_rf
  have hV0 : Fx [14] (vi) A A := Fx_rf
  have b_ln : (0 : Int) ≤ ln ∧ ln ≤ 3000 := e_ln ▸ hW.1 9
  have b_li : (0 : Int) ≤ li ∧ li ≤ 3000 := e_li ▸ hW.1 3
  have b_at0 : (0 : Int) ≤ at0 ∧ at0 ≤ 3002 := e_at0 ▸ hW.1 10
  have b_fk : (0 : Int) ≤ fk ∧ fk ≤ 6 := e_fk ▸ hW.1 16
  have b_nd : (0 : Int) ≤ nd ∧ nd ≤ 6999 := e_nd ▸ hW.1 31
  have b_sy : (0 : Int) ≤ sy ∧ sy ≤ 202 := e_sy ▸ hW.1 19
  have b_na : (0 : Int) ≤ na ∧ na ≤ 200 := e_na ▸ hW.1 28
  have b_vi : (0 : Int) ≤ vi ∧ vi ≤ 202 := e_vi ▸ hW.1 29
  have b_le : (0 : Int) ≤ le ∧ le ≤ 3000 := e_le ▸ hW.2 4 _
  have b_op0 : (-2147483648 : Int) ≤ op0 ∧ op0 ≤ 2147483647 := e_op0 ▸ hW.1 15
  have z_tk0 := tz_f tk0
  have b_tk0 : (0 : Int) ≤ tk0 ∧ tk0 ≤ 5 := e_tk0 ▸ hW.1 11
  intro L Gx Ax n at1 tk1 fk1 nd1 op1 sy1 na1 ec1 gL_0 gL_1 gL_2 hWx hFx hPx hSx hVx ex_at1 ex_tk1 ex_fk1 ex_nd1 ex_op1 ex_sy1 ex_na1 ex_ec1 fx_9 fx_29 rx_n iv_0 iv_1 iv_2 iv_3 iv_4 iv_5 iv_6 iv_7
  have b_at1 : (0 : Int) ≤ at1 ∧ at1 ≤ 3002 := ex_at1 ▸ hWx.1 10
  have z_tk1 := tz_f tk1
  have b_tk1 : (0 : Int) ≤ tk1 ∧ tk1 ≤ 5 := ex_tk1 ▸ hWx.1 11
  have b_fk1 : (0 : Int) ≤ fk1 ∧ fk1 ≤ 6 := ex_fk1 ▸ hWx.1 16
  have b_nd1 : (0 : Int) ≤ nd1 ∧ nd1 ≤ 6999 := ex_nd1 ▸ hWx.1 31
  have b_op1 : (-2147483648 : Int) ≤ op1 ∧ op1 ≤ 2147483647 := ex_op1 ▸ hWx.1 15
  have b_sy1 : (0 : Int) ≤ sy1 ∧ sy1 ≤ 202 := ex_sy1 ▸ hWx.1 19
  have b_na1 : (0 : Int) ≤ na1 ∧ na1 ≤ 200 := ex_na1 ▸ hWx.1 28
  refine jx_ld (pc' := 86) (l' := L) (st' := [.ref 66]) rfl (jl_aloadn gL_0) ?_
  refine jx_ld (pc' := 87) (l' := L) (st' := [.ref 66, .ref 66]) rfl (jl_aloadn gL_0) ?_
  refine jx_ar (pc' := 89) (st' := [.int (i32 (61)), .ref 66, .ref 66]) rfl rfl rfl rfl ?_
  have b418 : (-2147483648 : Int) ≤ Gx 13 ∧ Gx 13 ≤ 2147483647 := hWx.1 13
  refine jx_vr (pc' := 92) (as := [.int (i32 (61))]) (st := [.ref 66]) rfl rfl rfl rfl ⟨rfl, rfl, Nat.le_of_ble_eq_true rfl⟩ rfl rfl (c_is (dd := d) (hd := by omega) (hW := hWx) (k := 61) (tk := tk1) (e_tk := show Gx 11 = tk1 from (ex_tk1)) (tn := Gx 13) (e_tn := show Gx 13 = Gx 13 from rfl)  (h_k := ⟨(by decide), (by decide)⟩)  ) (fun o V' hq => ?_)
  obtain ⟨r419, rfl, rfl, b420, q421⟩ := hq
  refine .inr ⟨_, rfl, ?_⟩
  rcases q421 with ⟨rfl, a422, a423, a424⟩ | rfl
  · have _q : True := trivial
    refine jx_vr (pc' := 95) (as := [.int (i32 (1))]) (st := []) rfl rfl rfl rfl ⟨rfl, rfl, Nat.le_of_ble_eq_true rfl⟩ rfl rfl (c_need (dd := d) (hd := by omega) (hW := hWx) (g := 1) (ln := ln) (e_ln := show Gx 9 = ln from (fx_9)) (le := le) (e_le := show Ax 4 (ln).toNat = le from (congrFun (hFx.2 4 rfl) _).trans (e_le)) (at0 := at1) (e_at0 := show Gx 10 = at1 from (ex_at1)) (fk := fk1) (e_fk := show Gx 16 = fk1 from (ex_fk1)) (tk0 := tk1) (e_tk0 := show Gx 11 = tk1 from (ex_tk1))  (h_g := ⟨(by decide), (by decide)⟩)  (p_0 := by omega)) (fun o V' hq => ?_)
    obtain ⟨G425, A426, at2_427, tk2_428, fk2_429, rfl, rfl, hW430, hF431, e432, e433, e434, p435, p436, q437⟩ := hq
    have hF438 := Fr_tr hFx hF431 (Fr_sub (by decide)) (Fr_sub (by decide))
    have hP439 := Pf_f hPx hF431 (by decide)
    have hS440 := Fx_f hSx hF431 (by decide)
    have hV441 := Fx_f hVx hF431 (by decide)
    have ec442 : ecn A426 (G425 31) = ec1 := (ecn_f (hF431.2 15 rfl) (hF431.1 31 rfl)).trans ex_ec1
    have bat2_427 : (0 : Int) ≤ at2_427 ∧ at2_427 ≤ 3002 := e432 ▸ hW430.1 10
    have ztk2_428 := tz_b tk2_428
    have btk2_428 : (0 : Int) ≤ tk2_428 ∧ tk2_428 ≤ 5 := e433 ▸ hW430.1 11
    have bfk2_429 : (0 : Int) ≤ fk2_429 ∧ fk2_429 ≤ 6 := e434 ▸ hW430.1 16
    refine .inl ⟨rfl, ?_⟩
    rcases q437 with ⟨a443, a444, a445, a446⟩ | ⟨a447, a448, a449, a450⟩
    · have _q : True := trivial
      have z451 := tz_f (tk2_428)
      exact c_readPar_w_at_95p (X := X) (k := k) (hP := hP) (d := d) (Vs := Vs) (sb := sb) (pb := pb) (hvb := hvb) (c0 := c0) (c1 := c1) (G := G) (A := A) (T := T) (lv := lv) (ln := ln) (li := li) (at0 := at0) (fk := fk) (nd := nd) (sy := sy) (na := na) (vi := vi) (le := le) (op0 := op0) (tk0 := tk0) (ec := ec) (hd := hd) (hW := hW) (e_ln := e_ln) (e_li := e_li) (e_at0 := e_at0) (e_fk := e_fk) (e_nd := e_nd) (e_sy := e_sy) (e_na := e_na) (e_vi := e_vi) (e_le := e_le) (e_op0 := e_op0) (e_tk0 := e_tk0) (e_ec := e_ec) (i_LT := i_LT) (i_SV := i_SV) (i_PQ := i_PQ) (h_lv := h_lv) (p_0 := p_0) (p_1 := p_1) (p_2 := p_2) (p_3 := p_3) (p_4 := p_4) (p_5 := p_5) (p_6 := p_6) (p_7 := p_7) (p_8 := p_8) (p_9 := p_9) (p_10 := p_10) L G425 A426 (n) (at2_427) (tk2_428) (fk2_429) (nd1) (op1) (sy1) (na1) (ec1) gL_0 gL_1 gL_2 hW430 hF438 hP439 hS440 hV441 ((e432)) ((e433)) ((e434)) (((hF431.1 31 rfl).trans (ex_nd1))) (((hF431.1 15 rfl).trans (ex_op1))) (((hF431.1 19 rfl).trans (ex_sy1))) (((hF431.1 28 rfl).trans (ex_na1))) (ec442) (((hF431.1 9 rfl).trans (fx_9))) (((hF431.1 29 rfl).trans (fx_29))) (by omega) (by omega) (by omega) (by omega) (by omega) (by omega) (by omega) (by omega) (by omega)
    · have _q : True := trivial
      exfalso
      omega
  · have _q : True := trivial
    refine jx_vr (pc' := 95) (as := [.int (i32 (0))]) (st := []) rfl rfl rfl rfl ⟨rfl, rfl, Nat.le_of_ble_eq_true rfl⟩ rfl rfl (c_need (dd := d) (hd := by omega) (hW := hWx) (g := 0) (ln := ln) (e_ln := show Gx 9 = ln from (fx_9)) (le := le) (e_le := show Ax 4 (ln).toNat = le from (congrFun (hFx.2 4 rfl) _).trans (e_le)) (at0 := at1) (e_at0 := show Gx 10 = at1 from (ex_at1)) (fk := fk1) (e_fk := show Gx 16 = fk1 from (ex_fk1)) (tk0 := tk1) (e_tk0 := show Gx 11 = tk1 from (ex_tk1))  (h_g := ⟨(by decide), (by decide)⟩)  (p_0 := by omega)) (fun o V' hq => ?_)
    obtain ⟨G452, A453, at2_454, tk2_455, fk2_456, rfl, rfl, hW457, hF458, e459, e460, e461, p462, p463, q464⟩ := hq
    have hF465 := Fr_tr hFx hF458 (Fr_sub (by decide)) (Fr_sub (by decide))
    have hP466 := Pf_f hPx hF458 (by decide)
    have hS467 := Fx_f hSx hF458 (by decide)
    have hV468 := Fx_f hVx hF458 (by decide)
    have ec469 : ecn A453 (G452 31) = ec1 := (ecn_f (hF458.2 15 rfl) (hF458.1 31 rfl)).trans ex_ec1
    have bat2_454 : (0 : Int) ≤ at2_454 ∧ at2_454 ≤ 3002 := e459 ▸ hW457.1 10
    have ztk2_455 := tz_b tk2_455
    have btk2_455 : (0 : Int) ≤ tk2_455 ∧ tk2_455 ≤ 5 := e460 ▸ hW457.1 11
    have bfk2_456 : (0 : Int) ≤ fk2_456 ∧ fk2_456 ≤ 6 := e461 ▸ hW457.1 16
    refine .inl ⟨rfl, ?_⟩
    rcases q464 with ⟨a470, a471, a472, a473⟩ | ⟨a474, a475, a476, a477⟩
    · have _q : True := trivial
      have z478 := tz_f (tk2_455)
      exact c_readPar_w_at_95p (X := X) (k := k) (hP := hP) (d := d) (Vs := Vs) (sb := sb) (pb := pb) (hvb := hvb) (c0 := c0) (c1 := c1) (G := G) (A := A) (T := T) (lv := lv) (ln := ln) (li := li) (at0 := at0) (fk := fk) (nd := nd) (sy := sy) (na := na) (vi := vi) (le := le) (op0 := op0) (tk0 := tk0) (ec := ec) (hd := hd) (hW := hW) (e_ln := e_ln) (e_li := e_li) (e_at0 := e_at0) (e_fk := e_fk) (e_nd := e_nd) (e_sy := e_sy) (e_na := e_na) (e_vi := e_vi) (e_le := e_le) (e_op0 := e_op0) (e_tk0 := e_tk0) (e_ec := e_ec) (i_LT := i_LT) (i_SV := i_SV) (i_PQ := i_PQ) (h_lv := h_lv) (p_0 := p_0) (p_1 := p_1) (p_2 := p_2) (p_3 := p_3) (p_4 := p_4) (p_5 := p_5) (p_6 := p_6) (p_7 := p_7) (p_8 := p_8) (p_9 := p_9) (p_10 := p_10) L G452 A453 (n) (at2_454) (tk2_455) (fk2_456) (nd1) (op1) (sy1) (na1) (ec1) gL_0 gL_1 gL_2 hW457 hF465 hP466 hS467 hV468 ((e459)) ((e460)) ((e461)) (((hF458.1 31 rfl).trans (ex_nd1))) (((hF458.1 15 rfl).trans (ex_op1))) (((hF458.1 19 rfl).trans (ex_sy1))) (((hF458.1 28 rfl).trans (ex_na1))) (ec469) (((hF458.1 9 rfl).trans (fx_9))) (((hF458.1 29 rfl).trans (fx_29))) (by omega) (by omega) (by omega) (by omega) (by omega) (by omega) (by omega) (by omega) (by omega)
    · have _q : True := trivial
      exfalso
      omega
set_option maxRecDepth 20000 in
set_option maxHeartbeats 4000000 in
theorem c_readPar_w_at_85 {X : jX} {k : Nat} (hP : RPw X k) {d : Nat} {Vs : Nat → Prop} {sb pb : Int} (hvb : VB Vs sb) {c0 c1 : jC} {G : Nat → Int} {A : Nat → Nat → Int} {T : jH} {lv : Int} {ln li at0 fk nd sy na vi le op0 tk0 ec : Int} (hd : 8 * k + 82 ≤ d + 1) (hW : Wk G A) (e_ln : G 9 = ln) (e_li : G 3 = li) (e_at0 : G 10 = at0) (e_fk : G 16 = fk) (e_nd : G 31 = nd) (e_sy : G 19 = sy) (e_na : G 28 = na) (e_vi : G 29 = vi) (e_le : A 4 (ln).toNat = le) (e_op0 : G 15 = op0) (e_tk0 : G 11 = tk0) (e_ec : ecn A (G 31) = ec) (i_LT : LT G A) (i_SV : SV Vs sb G A) (i_PQ : PQ Vs sb pb G A) (h_lv : (-2147483648 : Int) ≤ lv ∧ lv ≤ 2147483647) (p_0 : 0 ≤ lv ∧ lv ≤ 15) (p_1 : 18 - lv ≤ ((k + 1 : Nat) : Int)) (p_2 : fk = 0) (p_3 : ln < li) (p_4 : at0 ≤ le) (p_5 : op0 = 0) (p_6 : nd ≤ 2 * at0 - tz tk0 + 30) (p_7 : sy ≤ na + 2) (p_8 : vi ≤ sy) (p_9 : sb = sy) (p_10 : 1 ≤ tk0) : ∀ (L : jL) (Gx : Nat → Int) (Ax : Nat → Nat → Int) (n at1 tk1 fk1 nd1 op1 sy1 na1 sa1 ka1 ec1 : Int), jGet L 0 = some (.ref 66) → jGet L 1 = some (.int (i32 (lv))) → jGet L 2 = some (.int (i32 n)) → Wk Gx Ax → Fr [9, 10, 11, 12, 13, 14, 15, 16, 17, 18, 19, 28, 29, 31] [6, 7, 8, 9, 10, 11, 12, 14, 15, 16, 17, 18, 19, 20, 21, 22, 23, 24, 28] G A Gx Ax → Pf nd A Ax → Fx sr (sy) A Ax → Fx [14] (vi) A Ax → Gx 10 = at1 → Gx 11 = tk1 → Gx 16 = fk1 → Gx 31 = nd1 → Gx 15 = op1 → Gx 19 = sy1 → Gx 28 = na1 → Ax 17 (n).toNat = sa1 → Ax 7 (sa1).toNat = ka1 → ecn Ax (Gx 31) = ec1 → Gx 9 = ln → Gx 29 = vi → ((-2147483648 : Int) ≤ n ∧ n ≤ 2147483647) → (fk1 = 0) → (at0 ≤ at1) → (at1 ≤ le) → (n = nd) → (n ≤ 6998 ∧ n < nd1) → (sy1 = sy + 1) → (sa1 = sy) → (sy1 ≤ na1 + 2) → (op1 = 0) → (nd1 - nd ≤ (2 * at1 - tz tk1) - (2 * at0 - tz tk0)) → (ka1 = 10) → (nd1 = n + 1) → (ND Ax (n) (29) (sa1) (0) (0) (0) (0) (0)) → (nd1 - nd + 5 * (ec1 - ec) ≤ (2 * at1 - tz tk1) - (2 * at0 - tz tk0)) → (NdO Ax (nd) (nd1) (sy) (n)) → wj X d jm299 (85, L, [], rV c0 c1 Gx Ax T) (fun o V' => ∃ (G' : Nat → Int) (A' : Nat → Nat → Int) (r : Int) (ln2 : Int) (at2 : Int) (fk2 : Int) (nd2 : Int) (sy2 : Int) (na2 : Int) (vi2 : Int) (lf2 : Int) (ec2 : Int), V' = rV c0 c1 G' A' T ∧ o = .inl (some (.int (i32 r))) ∧ Wk G' A' ∧ Fr [9, 10, 11, 12, 13, 14, 15, 16, 17, 18, 19, 28, 29, 31] [6, 7, 8, 9, 10, 11, 12, 14, 15, 16, 17, 18, 19, 20, 21, 22, 23, 24, 28] G A G' A' ∧ Pf nd A A' ∧ Fx sr (sy) A A' ∧ Fx [14] (vi) A A' ∧ ((-2147483648 : Int) ≤ r ∧ r ≤ 2147483647) ∧ G' 9 = ln2 ∧ G' 10 = at2 ∧ G' 16 = fk2 ∧ G' 31 = nd2 ∧ G' 19 = sy2 ∧ G' 28 = na2 ∧ G' 29 = vi2 ∧ A' 3 (ln2).toNat = lf2 ∧ ecn A' (G' 31) = ec2 ∧ (at0 ≤ at2) ∧ (nd ≤ nd2) ∧ (sy ≤ sy2) ∧ (sy2 ≤ na2 + 2) ∧ (vi ≤ vi2) ∧ (vi2 ≤ vi + 1) ∧ (0 ≤ r) ∧ (r ≤ 6999) ∧ (ln ≤ ln2) ∧ (ln2 ≤ li) ∧ (((1 ≤ fk2) ∧ (nd2 - nd ≤ 2 * at2 - (2 * at0 - tz tk0) + 14)) ∨ ((fk2 = 0) ∧ (vi2 = vi) ∧ (ln < ln2) ∧ (nd2 - nd ≤ 2 * at2 - (2 * at0 - tz tk0)) ∧ (at2 < lf2 ∨ li ≤ ln2) ∧ (nd ≤ r) ∧ (r < nd2) ∧ (wSt A' (sy2) pb (wP A' (sy2) pb (k)) (Vs) (r) (nd) (nd2) (sy) (sy2)) ∧ (NX A' (r)) ∧ (nd2 - nd + 5 * (ec2 - ec) ≤ 2 * at2 - (2 * at0 - tz tk0)) ∧ (NdO A' (nd) (nd2) (sy) (r))))) := by
  have hF0 : Fr [9, 10, 11, 12, 13, 14, 15, 16, 17, 18, 19, 28, 29, 31] [6, 7, 8, 9, 10, 11, 12, 14, 15, 16, 17, 18, 19, 20, 21, 22, 23, 24, 28] G A G A := Fr_rf
  have hP0 : Pf nd A A := Pf_rf
  have hS0 : Fx sr (sy) A A := Fx_rf
  have hV0 : Fx [14] (vi) A A := Fx_rf
  have b_ln : (0 : Int) ≤ ln ∧ ln ≤ 3000 := e_ln ▸ hW.1 9
  have b_li : (0 : Int) ≤ li ∧ li ≤ 3000 := e_li ▸ hW.1 3
  have b_at0 : (0 : Int) ≤ at0 ∧ at0 ≤ 3002 := e_at0 ▸ hW.1 10
  have b_fk : (0 : Int) ≤ fk ∧ fk ≤ 6 := e_fk ▸ hW.1 16
  have b_nd : (0 : Int) ≤ nd ∧ nd ≤ 6999 := e_nd ▸ hW.1 31
  have b_sy : (0 : Int) ≤ sy ∧ sy ≤ 202 := e_sy ▸ hW.1 19
  have b_na : (0 : Int) ≤ na ∧ na ≤ 200 := e_na ▸ hW.1 28
  have b_vi : (0 : Int) ≤ vi ∧ vi ≤ 202 := e_vi ▸ hW.1 29
  have b_le : (0 : Int) ≤ le ∧ le ≤ 3000 := e_le ▸ hW.2 4 _
  have b_op0 : (-2147483648 : Int) ≤ op0 ∧ op0 ≤ 2147483647 := e_op0 ▸ hW.1 15
  have z_tk0 := tz_f tk0
  have b_tk0 : (0 : Int) ≤ tk0 ∧ tk0 ≤ 5 := e_tk0 ▸ hW.1 11
  intro L Gx Ax n at1 tk1 fk1 nd1 op1 sy1 na1 sa1 ka1 ec1 gL_0 gL_1 gL_2 hWx hFx hPx hSx hVx ex_at1 ex_tk1 ex_fk1 ex_nd1 ex_op1 ex_sy1 ex_na1 ex_sa1 ex_ka1 ex_ec1 fx_9 fx_29 rx_n iv_0 iv_1 iv_2 iv_3 iv_4 iv_5 iv_6 iv_7 iv_8 iv_9 iv_10 iv_11 iv_12 iv_13 iv_14
  have b_at1 : (0 : Int) ≤ at1 ∧ at1 ≤ 3002 := ex_at1 ▸ hWx.1 10
  have z_tk1 := tz_f tk1
  have b_tk1 : (0 : Int) ≤ tk1 ∧ tk1 ≤ 5 := ex_tk1 ▸ hWx.1 11
  have b_fk1 : (0 : Int) ≤ fk1 ∧ fk1 ≤ 6 := ex_fk1 ▸ hWx.1 16
  have b_nd1 : (0 : Int) ≤ nd1 ∧ nd1 ≤ 6999 := ex_nd1 ▸ hWx.1 31
  have b_op1 : (-2147483648 : Int) ≤ op1 ∧ op1 ≤ 2147483647 := ex_op1 ▸ hWx.1 15
  have b_sy1 : (0 : Int) ≤ sy1 ∧ sy1 ≤ 202 := ex_sy1 ▸ hWx.1 19
  have b_na1 : (0 : Int) ≤ na1 ∧ na1 ≤ 200 := ex_na1 ▸ hWx.1 28
  refine jx_ld (pc' := 86) (l' := L) (st' := [.ref 66]) rfl (jl_aloadn gL_0) ?_
  refine jx_ld (pc' := 87) (l' := L) (st' := [.ref 66, .ref 66]) rfl (jl_aloadn gL_0) ?_
  refine jx_ar (pc' := 89) (st' := [.int (i32 (61)), .ref 66, .ref 66]) rfl rfl rfl rfl ?_
  have b479 : (-2147483648 : Int) ≤ Gx 13 ∧ Gx 13 ≤ 2147483647 := hWx.1 13
  refine jx_vr (pc' := 92) (as := [.int (i32 (61))]) (st := [.ref 66]) rfl rfl rfl rfl ⟨rfl, rfl, Nat.le_of_ble_eq_true rfl⟩ rfl rfl (c_is (dd := d) (hd := by omega) (hW := hWx) (k := 61) (tk := tk1) (e_tk := show Gx 11 = tk1 from (ex_tk1)) (tn := Gx 13) (e_tn := show Gx 13 = Gx 13 from rfl)  (h_k := ⟨(by decide), (by decide)⟩)  ) (fun o V' hq => ?_)
  obtain ⟨r480, rfl, rfl, b481, q482⟩ := hq
  refine .inr ⟨_, rfl, ?_⟩
  rcases q482 with ⟨rfl, a483, a484, a485⟩ | rfl
  · have _q : True := trivial
    refine jx_vr (pc' := 95) (as := [.int (i32 (1))]) (st := []) rfl rfl rfl rfl ⟨rfl, rfl, Nat.le_of_ble_eq_true rfl⟩ rfl rfl (c_need (dd := d) (hd := by omega) (hW := hWx) (g := 1) (ln := ln) (e_ln := show Gx 9 = ln from (fx_9)) (le := le) (e_le := show Ax 4 (ln).toNat = le from (congrFun (hFx.2 4 rfl) _).trans (e_le)) (at0 := at1) (e_at0 := show Gx 10 = at1 from (ex_at1)) (fk := fk1) (e_fk := show Gx 16 = fk1 from (ex_fk1)) (tk0 := tk1) (e_tk0 := show Gx 11 = tk1 from (ex_tk1))  (h_g := ⟨(by decide), (by decide)⟩)  (p_0 := by omega)) (fun o V' hq => ?_)
    obtain ⟨G486, A487, at2_488, tk2_489, fk2_490, rfl, rfl, hW491, hF492, e493, e494, e495, p496, p497, q498⟩ := hq
    have hF499 := Fr_tr hFx hF492 (Fr_sub (by decide)) (Fr_sub (by decide))
    have hP500 := Pf_f hPx hF492 (by decide)
    have hS501 := Fx_f hSx hF492 (by decide)
    have hV502 := Fx_f hVx hF492 (by decide)
    have sf503 : ND A487 (n) (29) (sa1) (0) (0) (0) (0) (0) := ND_ag (by omega) (Ag_fr hF492 (by decide)) iv_12
    have sf504 : NdO A487 (nd) (nd1) (sy) (n) := NdO_f hF492 (by decide) iv_14
    have ec505 : ecn A487 (G486 31) = ec1 := (ecn_f (hF492.2 15 rfl) (hF492.1 31 rfl)).trans ex_ec1
    have bat2_488 : (0 : Int) ≤ at2_488 ∧ at2_488 ≤ 3002 := e493 ▸ hW491.1 10
    have ztk2_489 := tz_b tk2_489
    have btk2_489 : (0 : Int) ≤ tk2_489 ∧ tk2_489 ≤ 5 := e494 ▸ hW491.1 11
    have bfk2_490 : (0 : Int) ≤ fk2_490 ∧ fk2_490 ≤ 6 := e495 ▸ hW491.1 16
    refine .inl ⟨rfl, ?_⟩
    rcases q498 with ⟨a506, a507, a508, a509⟩ | ⟨a510, a511, a512, a513⟩
    · have _q : True := trivial
      have z514 := tz_f (tk2_489)
      exact c_readPar_w_at_95p (X := X) (k := k) (hP := hP) (d := d) (Vs := Vs) (sb := sb) (pb := pb) (hvb := hvb) (c0 := c0) (c1 := c1) (G := G) (A := A) (T := T) (lv := lv) (ln := ln) (li := li) (at0 := at0) (fk := fk) (nd := nd) (sy := sy) (na := na) (vi := vi) (le := le) (op0 := op0) (tk0 := tk0) (ec := ec) (hd := hd) (hW := hW) (e_ln := e_ln) (e_li := e_li) (e_at0 := e_at0) (e_fk := e_fk) (e_nd := e_nd) (e_sy := e_sy) (e_na := e_na) (e_vi := e_vi) (e_le := e_le) (e_op0 := e_op0) (e_tk0 := e_tk0) (e_ec := e_ec) (i_LT := i_LT) (i_SV := i_SV) (i_PQ := i_PQ) (h_lv := h_lv) (p_0 := p_0) (p_1 := p_1) (p_2 := p_2) (p_3 := p_3) (p_4 := p_4) (p_5 := p_5) (p_6 := p_6) (p_7 := p_7) (p_8 := p_8) (p_9 := p_9) (p_10 := p_10) L G486 A487 (n) (at2_488) (tk2_489) (fk2_490) (nd1) (op1) (sy1) (na1) (ec1) gL_0 gL_1 gL_2 hW491 hF499 hP500 hS501 hV502 ((e493)) ((e494)) ((e495)) (((hF492.1 31 rfl).trans (ex_nd1))) (((hF492.1 15 rfl).trans (ex_op1))) (((hF492.1 19 rfl).trans (ex_sy1))) (((hF492.1 28 rfl).trans (ex_na1))) (ec505) (((hF492.1 9 rfl).trans (fx_9))) (((hF492.1 29 rfl).trans (fx_29))) (by omega) (by omega) (by omega) (by omega) (by omega) (by omega) (by omega) (by omega) (by omega)
    · have _q : True := trivial
      have pz515 : at1 + tz tk2_489 ≤ at2_488 := by omega
      have z516 := tz_f (tk2_489)
      exact c_readPar_w_at_95 (X := X) (k := k) (hP := hP) (d := d) (Vs := Vs) (sb := sb) (pb := pb) (hvb := hvb) (c0 := c0) (c1 := c1) (G := G) (A := A) (T := T) (lv := lv) (ln := ln) (li := li) (at0 := at0) (fk := fk) (nd := nd) (sy := sy) (na := na) (vi := vi) (le := le) (op0 := op0) (tk0 := tk0) (ec := ec) (hd := hd) (hW := hW) (e_ln := e_ln) (e_li := e_li) (e_at0 := e_at0) (e_fk := e_fk) (e_nd := e_nd) (e_sy := e_sy) (e_na := e_na) (e_vi := e_vi) (e_le := e_le) (e_op0 := e_op0) (e_tk0 := e_tk0) (e_ec := e_ec) (i_LT := i_LT) (i_SV := i_SV) (i_PQ := i_PQ) (h_lv := h_lv) (p_0 := p_0) (p_1 := p_1) (p_2 := p_2) (p_3 := p_3) (p_4 := p_4) (p_5 := p_5) (p_6 := p_6) (p_7 := p_7) (p_8 := p_8) (p_9 := p_9) (p_10 := p_10) L G486 A487 (n) (at2_488) (tk2_489) (fk2_490) (nd1) (op1) (sy1) (na1) (sa1) (ka1) (ec1) gL_0 gL_1 gL_2 hW491 hF499 hP500 hS501 hV502 ((e493)) ((e494)) ((e495)) (((hF492.1 31 rfl).trans (ex_nd1))) (((hF492.1 15 rfl).trans (ex_op1))) (((hF492.1 19 rfl).trans (ex_sy1))) (((hF492.1 28 rfl).trans (ex_na1))) ((congrFun (hF492.2 17 rfl) _).trans (ex_sa1)) ((congrFun (hF492.2 7 rfl) _).trans (ex_ka1)) (ec505) (((hF492.1 9 rfl).trans (fx_9))) (((hF492.1 29 rfl).trans (fx_29))) (by omega) (by omega) (by omega) (by omega) (by omega) (by omega) (by omega) (by omega) (by omega) (by omega) (by omega) (by omega) (by omega) (sf503) (by omega) (sf504)
  · have _q : True := trivial
    refine jx_vr (pc' := 95) (as := [.int (i32 (0))]) (st := []) rfl rfl rfl rfl ⟨rfl, rfl, Nat.le_of_ble_eq_true rfl⟩ rfl rfl (c_need (dd := d) (hd := by omega) (hW := hWx) (g := 0) (ln := ln) (e_ln := show Gx 9 = ln from (fx_9)) (le := le) (e_le := show Ax 4 (ln).toNat = le from (congrFun (hFx.2 4 rfl) _).trans (e_le)) (at0 := at1) (e_at0 := show Gx 10 = at1 from (ex_at1)) (fk := fk1) (e_fk := show Gx 16 = fk1 from (ex_fk1)) (tk0 := tk1) (e_tk0 := show Gx 11 = tk1 from (ex_tk1))  (h_g := ⟨(by decide), (by decide)⟩)  (p_0 := by omega)) (fun o V' hq => ?_)
    obtain ⟨G517, A518, at2_519, tk2_520, fk2_521, rfl, rfl, hW522, hF523, e524, e525, e526, p527, p528, q529⟩ := hq
    have hF530 := Fr_tr hFx hF523 (Fr_sub (by decide)) (Fr_sub (by decide))
    have hP531 := Pf_f hPx hF523 (by decide)
    have hS532 := Fx_f hSx hF523 (by decide)
    have hV533 := Fx_f hVx hF523 (by decide)
    have sf534 : ND A518 (n) (29) (sa1) (0) (0) (0) (0) (0) := ND_ag (by omega) (Ag_fr hF523 (by decide)) iv_12
    have sf535 : NdO A518 (nd) (nd1) (sy) (n) := NdO_f hF523 (by decide) iv_14
    have ec536 : ecn A518 (G517 31) = ec1 := (ecn_f (hF523.2 15 rfl) (hF523.1 31 rfl)).trans ex_ec1
    have bat2_519 : (0 : Int) ≤ at2_519 ∧ at2_519 ≤ 3002 := e524 ▸ hW522.1 10
    have ztk2_520 := tz_b tk2_520
    have btk2_520 : (0 : Int) ≤ tk2_520 ∧ tk2_520 ≤ 5 := e525 ▸ hW522.1 11
    have bfk2_521 : (0 : Int) ≤ fk2_521 ∧ fk2_521 ≤ 6 := e526 ▸ hW522.1 16
    refine .inl ⟨rfl, ?_⟩
    rcases q529 with ⟨a537, a538, a539, a540⟩ | ⟨a541, a542, a543, a544⟩
    · have _q : True := trivial
      have z545 := tz_f (tk2_520)
      exact c_readPar_w_at_95p (X := X) (k := k) (hP := hP) (d := d) (Vs := Vs) (sb := sb) (pb := pb) (hvb := hvb) (c0 := c0) (c1 := c1) (G := G) (A := A) (T := T) (lv := lv) (ln := ln) (li := li) (at0 := at0) (fk := fk) (nd := nd) (sy := sy) (na := na) (vi := vi) (le := le) (op0 := op0) (tk0 := tk0) (ec := ec) (hd := hd) (hW := hW) (e_ln := e_ln) (e_li := e_li) (e_at0 := e_at0) (e_fk := e_fk) (e_nd := e_nd) (e_sy := e_sy) (e_na := e_na) (e_vi := e_vi) (e_le := e_le) (e_op0 := e_op0) (e_tk0 := e_tk0) (e_ec := e_ec) (i_LT := i_LT) (i_SV := i_SV) (i_PQ := i_PQ) (h_lv := h_lv) (p_0 := p_0) (p_1 := p_1) (p_2 := p_2) (p_3 := p_3) (p_4 := p_4) (p_5 := p_5) (p_6 := p_6) (p_7 := p_7) (p_8 := p_8) (p_9 := p_9) (p_10 := p_10) L G517 A518 (n) (at2_519) (tk2_520) (fk2_521) (nd1) (op1) (sy1) (na1) (ec1) gL_0 gL_1 gL_2 hW522 hF530 hP531 hS532 hV533 ((e524)) ((e525)) ((e526)) (((hF523.1 31 rfl).trans (ex_nd1))) (((hF523.1 15 rfl).trans (ex_op1))) (((hF523.1 19 rfl).trans (ex_sy1))) (((hF523.1 28 rfl).trans (ex_na1))) (ec536) (((hF523.1 9 rfl).trans (fx_9))) (((hF523.1 29 rfl).trans (fx_29))) (by omega) (by omega) (by omega) (by omega) (by omega) (by omega) (by omega) (by omega) (by omega)
    · have _q : True := trivial
      exfalso
      omega
set_option maxRecDepth 20000 in
set_option maxHeartbeats 4000000 in
theorem c_readPar_w {X : jX} {k : Nat} (hP : RPw X k) {dd : Nat} {Vs : Nat → Prop} {sb pb : Int} (hvb : VB Vs sb) {c0 c1 : jC} {G : Nat → Int} {A : Nat → Nat → Int} {T : jH} {lv : Int} {ln li at0 fk nd sy na vi le op0 tk0 ec : Int} (hd : 8 * k + 82 ≤ dd) (hW : Wk G A) (e_ln : G 9 = ln) (e_li : G 3 = li) (e_at0 : G 10 = at0) (e_fk : G 16 = fk) (e_nd : G 31 = nd) (e_sy : G 19 = sy) (e_na : G 28 = na) (e_vi : G 29 = vi) (e_le : A 4 (ln).toNat = le) (e_op0 : G 15 = op0) (e_tk0 : G 11 = tk0) (e_ec : ecn A (G 31) = ec) (i_LT : LT G A) (i_SV : SV Vs sb G A) (i_PQ : PQ Vs sb pb G A) (h_lv : (-2147483648 : Int) ≤ lv ∧ lv ≤ 2147483647) (p_0 : 0 ≤ lv ∧ lv ≤ 15) (p_1 : 18 - lv ≤ ((k + 1 : Nat) : Int)) (p_2 : fk = 0) (p_3 : ln < li) (p_4 : at0 ≤ le) (p_5 : op0 = 0) (p_6 : nd ≤ 2 * at0 - tz tk0 + 30) (p_7 : sy ≤ na + 2) (p_8 : vi ≤ sy) (p_9 : sb = sy) (p_10 : 1 ≤ tk0) : wk X dd 299 [.ref 66, .int (i32 lv)] (rV c0 c1 G A T) (fun o V' => ∃ (G' : Nat → Int) (A' : Nat → Nat → Int) (r : Int) (ln2 : Int) (at2 : Int) (fk2 : Int) (nd2 : Int) (sy2 : Int) (na2 : Int) (vi2 : Int) (lf2 : Int) (ec2 : Int), V' = rV c0 c1 G' A' T ∧ o = .inl (some (.int (i32 r))) ∧ Wk G' A' ∧ Fr [9, 10, 11, 12, 13, 14, 15, 16, 17, 18, 19, 28, 29, 31] [6, 7, 8, 9, 10, 11, 12, 14, 15, 16, 17, 18, 19, 20, 21, 22, 23, 24, 28] G A G' A' ∧ Pf nd A A' ∧ Fx sr (sy) A A' ∧ Fx [14] (vi) A A' ∧ ((-2147483648 : Int) ≤ r ∧ r ≤ 2147483647) ∧ G' 9 = ln2 ∧ G' 10 = at2 ∧ G' 16 = fk2 ∧ G' 31 = nd2 ∧ G' 19 = sy2 ∧ G' 28 = na2 ∧ G' 29 = vi2 ∧ A' 3 (ln2).toNat = lf2 ∧ ecn A' (G' 31) = ec2 ∧ (at0 ≤ at2) ∧ (nd ≤ nd2) ∧ (sy ≤ sy2) ∧ (sy2 ≤ na2 + 2) ∧ (vi ≤ vi2) ∧ (vi2 ≤ vi + 1) ∧ (0 ≤ r) ∧ (r ≤ 6999) ∧ (ln ≤ ln2) ∧ (ln2 ≤ li) ∧ (((1 ≤ fk2) ∧ (nd2 - nd ≤ 2 * at2 - (2 * at0 - tz tk0) + 14)) ∨ ((fk2 = 0) ∧ (vi2 = vi) ∧ (ln < ln2) ∧ (nd2 - nd ≤ 2 * at2 - (2 * at0 - tz tk0)) ∧ (at2 < lf2 ∨ li ≤ ln2) ∧ (nd ≤ r) ∧ (r < nd2) ∧ (wSt A' (sy2) pb (wP A' (sy2) pb (k)) (Vs) (r) (nd) (nd2) (sy) (sy2)) ∧ (NX A' (r)) ∧ (nd2 - nd + 5 * (ec2 - ec) ≤ 2 * at2 - (2 * at0 - tz tk0)) ∧ (NdO A' (nd) (nd2) (sy) (r))))) := by
  obtain ⟨d, rfl⟩ : ∃ d, dd = d + 1 := ⟨dd - 1, by omega⟩
  refine wk_of (e := jm299) rfl (Nat.le_of_ble_eq_true rfl) ?_
  show wj X d jm299 (0, [(0, .ref 66), (1, .int (i32 (lv)))], [], rV c0 c1 G A T) _
  have hF0 : Fr [9, 10, 11, 12, 13, 14, 15, 16, 17, 18, 19, 28, 29, 31] [6, 7, 8, 9, 10, 11, 12, 14, 15, 16, 17, 18, 19, 20, 21, 22, 23, 24, 28] G A G A := Fr_rf
  have hP0 : Pf nd A A := Pf_rf
  have hS0 : Fx sr (sy) A A := Fx_rf
  have hV0 : Fx [14] (vi) A A := Fx_rf
  have b_ln : (0 : Int) ≤ ln ∧ ln ≤ 3000 := e_ln ▸ hW.1 9
  have b_li : (0 : Int) ≤ li ∧ li ≤ 3000 := e_li ▸ hW.1 3
  have b_at0 : (0 : Int) ≤ at0 ∧ at0 ≤ 3002 := e_at0 ▸ hW.1 10
  have b_fk : (0 : Int) ≤ fk ∧ fk ≤ 6 := e_fk ▸ hW.1 16
  have b_nd : (0 : Int) ≤ nd ∧ nd ≤ 6999 := e_nd ▸ hW.1 31
  have b_sy : (0 : Int) ≤ sy ∧ sy ≤ 202 := e_sy ▸ hW.1 19
  have b_na : (0 : Int) ≤ na ∧ na ≤ 200 := e_na ▸ hW.1 28
  have b_vi : (0 : Int) ≤ vi ∧ vi ≤ 202 := e_vi ▸ hW.1 29
  have b_le : (0 : Int) ≤ le ∧ le ≤ 3000 := e_le ▸ hW.2 4 _
  have b_op0 : (-2147483648 : Int) ≤ op0 ∧ op0 ≤ 2147483647 := e_op0 ▸ hW.1 15
  have z_tk0 := tz_f tk0
  have b_tk0 : (0 : Int) ≤ tk0 ∧ tk0 ≤ 5 := e_tk0 ▸ hW.1 11
  refine jx_ld (pc' := 1) (l' := [(0, .ref 66), (1, .int (i32 (lv)))]) (st' := [.ref 66]) rfl (jl_aloadn rfl) ?_
  refine jx_vr (pc' := 4) (as := []) (st := []) rfl rfl rfl rfl ⟨rfl, rfl, Nat.le_of_ble_eq_true rfl⟩ rfl rfl (c_next (dd := d) (hd := by omega) (hW := hW)  (ln := ln) (e_ln := show G 9 = ln from (e_ln)) (le := le) (e_le := show A 4 (ln).toNat = le from (e_le)) (at0 := at0) (e_at0 := show G 10 = at0 from (e_at0))    (p_0 := by omega)) (fun o V' hq => ?_)
  obtain ⟨G546, A547, at2_548, tk2_549, rfl, rfl, hW550, hF551, e552, e553, p554, p555, p556, -⟩ := hq
  have hF558 := Fr_tr hF0 hF551 (Fr_sub (by decide)) (Fr_sub (by decide))
  have hP559 := Pf_f hP0 hF551 (by decide)
  have hS560 := Fx_f hS0 hF551 (by decide)
  have hV561 := Fx_f hV0 hF551 (by decide)
  have ec562 : ecn A547 (G546 31) = ec := (ecn_f (hF551.2 15 rfl) (hF551.1 31 rfl)).trans e_ec
  have bat2_548 : (0 : Int) ≤ at2_548 ∧ at2_548 ≤ 3002 := e552 ▸ hW550.1 10
  have ztk2_549 := tz_b tk2_549
  have btk2_549 : (0 : Int) ≤ tk2_549 ∧ tk2_549 ≤ 5 := e553 ▸ hW550.1 11
  refine .inl ⟨rfl, ?_⟩
  have pz563 : at0 + tz tk2_549 ≤ at2_548 := by omega
  refine jx_ld (pc' := 5) (l' := [(0, .ref 66), (1, .int (i32 (lv)))]) (st' := [.ref 66]) rfl (jl_aloadn rfl) ?_
  have z564 := tz_f (tk2_549)
  refine jr_get (pc' := 8) (i := 11) (v := .int (i32 (tk2_549))) rfl rfl (by decide) (rFv_eq (by decide) (show G546 11 = tk2_549 from (e553))) rfl ?_
  refine jx_if_ne (pc' := 11) (tg := 37) rfl rfl rfl (Int.le_trans (by decide : (-2147483648 : Int) ≤ 0) btk2_549.1) (Int.le_trans btk2_549.2 (by decide : (5 : Int) ≤ 2147483647)) (fun h565 => ?_) (fun h565 => ?_)
  · have _q := h565
    refine jx_ld (pc' := 38) (l' := [(0, .ref 66), (1, .int (i32 (lv)))]) (st' := [.ref 66]) rfl (jl_aloadn rfl) ?_
    have z566 := tz_f (tk2_549)
    refine jr_get (pc' := 41) (i := 11) (v := .int (i32 (tk2_549))) rfl rfl (by decide) (rFv_eq (by decide) (show G546 11 = tk2_549 from (e553))) rfl ?_
    refine jx_ar (pc' := 42) (st' := [.int (i32 (1)), .int (i32 (tk2_549))]) rfl rfl rfl rfl ?_
    refine jx_icmp_eq (pc' := 45) (tg := 56) rfl rfl rfl (Int.le_trans (by decide : (-2147483648 : Int) ≤ 0) btk2_549.1) (Int.le_trans btk2_549.2 (by decide : (5 : Int) ≤ 2147483647)) (by decide) (by decide) (fun h567 => ?_) (fun h567 => ?_)
    · have _q := h567
      refine jx_ld (pc' := 57) (l' := [(0, .ref 66), (1, .int (i32 (lv)))]) (st' := [.ref 66]) rfl (jl_aloadn rfl) ?_
      refine jx_ar (pc' := 59) (st' := [.int (i32 (29)), .ref 66]) rfl rfl rfl rfl ?_
      refine jx_ar (pc' := 60) (st' := [.int (i32 (0)), .int (i32 (29)), .ref 66]) rfl rfl rfl rfl ?_
      refine jx_ar (pc' := 61) (st' := [.int (i32 (0)), .int (i32 (0)), .int (i32 (29)), .ref 66]) rfl rfl rfl rfl ?_
      refine jx_ar (pc' := 62) (st' := [.int (i32 (0)), .int (i32 (0)), .int (i32 (0)), .int (i32 (29)), .ref 66]) rfl rfl rfl rfl ?_
      refine jx_ar (pc' := 63) (st' := [.int (i32 (0)), .int (i32 (0)), .int (i32 (0)), .int (i32 (0)), .int (i32 (29)), .ref 66]) rfl rfl rfl rfl ?_
      refine jx_vr (pc' := 66) (as := [.int (i32 (29)), .int (i32 (0)), .int (i32 (0)), .int (i32 (0)), .int (i32 (0))]) (st := []) rfl rfl rfl rfl ⟨rfl, rfl, Nat.le_of_ble_eq_true rfl⟩ rfl rfl (c_node_p (dd := d) (hd := by omega) (hW := hW550) (kind := 29) (a := 0) (b := 0) (c := 0) (e := 0) (nd := nd) (e_nd := show G546 31 = nd from ((hF551.1 31 rfl).trans (e_nd))) (ec := ec) (e_ec := show ecn A547 (G546 31) = ec from ec562) (sy := sy) (e_sy := show G546 19 = sy from ((hF551.1 19 rfl).trans (e_sy))) (ln := ln) (e_ln := show G546 9 = ln from ((hF551.1 9 rfl).trans (e_ln))) (li := li) (e_li := show G546 3 = li from ((hF551.1 3 rfl).trans (e_li)))  (h_kind := ⟨(by decide), (by decide)⟩) (h_a := ⟨(by decide), (by decide)⟩) (h_b := ⟨(by decide), (by decide)⟩) (h_c := ⟨(by decide), (by decide)⟩) (h_e := ⟨(by decide), (by decide)⟩)  (p_0 := by omega) (p_1 := by omega) (p_2 := by omega) (p_3 := by omega)) (fun o V' hq => ?_)
      obtain ⟨G568, A569, nd2_570, ec2_571, rfl, rfl, hW572, hF573, hQ574, e575, e576, p577, p578, p579, p580, -⟩ := hq
      have hF582 := Fr_tr hF558 hF573 (Fr_sub (by decide)) (Fr_sub (by decide))
      have hP583 := Pf_tr hP559 hQ574 (by omega)
      have hS584 := Fx_f hS560 hF573 (by decide)
      have hV585 := Fx_f hV561 hF573 (by decide)
      have bnd2_570 : (0 : Int) ≤ nd2_570 ∧ nd2_570 ≤ 6999 := e575 ▸ hW572.1 31
      refine .inr ⟨_, rfl, ?_⟩
      refine jx_ld (pc' := 67) (l' := jSto1 [(0, .ref 66), (1, .int (i32 (lv)))] 2 (.int (i32 (nd)))) (st' := []) rfl rfl ?_
      obtain ⟨L586, eL586⟩ : ∃ q, q = jSto1 [(0, .ref 66), (1, .int (i32 (lv)))] 2 (.int (i32 (nd))) := ⟨_, rfl⟩
      rw [← eL586]
      have gL586_0 : jGet L586 0 = some (.ref 66) := eL586 ▸ jg_ne (by decide) (rfl : jGet [(0, .ref 66), (1, .int (i32 (lv)))] 0 = some (.ref 66)) rfl
      have gL586_1 : jGet L586 1 = some (.int (i32 (lv))) := eL586 ▸ jg_ne (by decide) (rfl : jGet [(0, .ref 66), (1, .int (i32 (lv)))] 1 = some (.int (i32 (lv)))) rfl
      have gL586_2 : jGet L586 2 = some (.int (i32 (nd))) := eL586 ▸ jg_eq
      refine jx_ld (pc' := 68) (l' := L586) (st' := [.ref 66]) rfl (jl_aloadn gL586_0) ?_
      refine jr_get (pc' := 71) (i := 34) (v := .ref 84) rfl rfl (by decide) rfl rfl ?_
      refine jx_ld (pc' := 72) (l' := L586) (st' := [.int (i32 (nd)), .ref 84]) rfl (jl_iloadn gL586_2) ?_
      refine jx_ld (pc' := 73) (l' := L586) (st' := [.ref 66, .int (i32 (nd)), .ref 84]) rfl (jl_aloadn gL586_0) ?_
      refine jx_ar (pc' := 75) (st' := [.int (i32 (10)), .ref 66, .int (i32 (nd)), .ref 84]) rfl rfl rfl rfl ?_
      refine jx_ar (pc' := 76) (st' := [.int (i32 (0)), .int (i32 (10)), .ref 66, .int (i32 (nd)), .ref 84]) rfl rfl rfl rfl ?_
      refine jx_vr (pc' := 79) (as := [.int (i32 (10)), .int (i32 (0))]) (st := [.int (i32 (nd)), .ref 84]) rfl rfl rfl rfl ⟨rfl, rfl, Nat.le_of_ble_eq_true rfl⟩ rfl rfl (c_newName (dd := d) (hd := by omega) (hW := hW572) (kind := 10) (many := 0) (sy := sy) (e_sy := show G568 19 = sy from ((hF573.1 19 rfl).trans ((hF551.1 19 rfl).trans (e_sy)))) (na := na) (e_na := show G568 28 = na from ((hF573.1 28 rfl).trans ((hF551.1 28 rfl).trans (e_na)))) (fk := fk) (e_fk := show G568 16 = fk from ((hF573.1 16 rfl).trans ((hF551.1 16 rfl).trans (e_fk))))  (h_kind := ⟨(by decide), (by decide)⟩) (h_many := ⟨(by decide), (by decide)⟩)  (p_0 := by omega) (p_1 := by omega)) (fun o V' hq => ?_)
      obtain ⟨G587, A588, r589, sy2_590, na2_591, fk2_592, yk2_593, rfl, rfl, hW594, hF595, hQ596, b597, e598, e599, e600, e601, q602⟩ := hq
      have hF603 := Fr_tr hF582 hF595 (Fr_sub (by decide)) (Fr_sub (by decide))
      have hP604 := Pf_f hP583 hF595 (by decide)
      have hS605 := Fx_tr hS584 hQ596 (by omega)
      have hV606 := Fx_f hV585 hF595 (by decide)
      have sf607 : ND A588 (nd) (29) (0) (0) (0) (0) (0) (0) := ND_ag (by omega) (Ag_fr hF595 (by decide)) p579
      have sf608 : NdO A588 (nd) (nd + 1) (sy) (nd) := NdO_f hF595 (by decide) p580
      have ec609 : ecn A588 (G587 31) = ec2_571 := (ecn_f (hF595.2 15 rfl) (hF595.1 31 rfl)).trans e576
      have bsy2_590 : (0 : Int) ≤ sy2_590 ∧ sy2_590 ≤ 202 := e598 ▸ hW594.1 19
      have bna2_591 : (0 : Int) ≤ na2_591 ∧ na2_591 ≤ 200 := e599 ▸ hW594.1 28
      have bfk2_592 : (0 : Int) ≤ fk2_592 ∧ fk2_592 ≤ 6 := e600 ▸ hW594.1 16
      have byk2_593 : (0 : Int) ≤ yk2_593 ∧ yk2_593 ≤ 14 := e601 ▸ hW594.2 7 _
      refine .inr ⟨_, rfl, ?_⟩
      rcases q602 with ⟨a616, a610, a611, a612, a613, a614, a615⟩ | ⟨rfl, a617, a618, a619⟩
      · have _q : True := trivial
        rw [a616]
        refine jr_st (pc' := 80) (i := 17) (m := 7000) (z := nd) (y := sy) rfl (by decide) rfl (by decide) (by omega) (by omega) rfl ?_
        have hW621 : Wk G587 (uA A588 17 (nd).toNat (sy)) := Wk_a hW594 (show (-2147483648 : Int) ≤ sy by omega) (show sy ≤ (2147483647 : Int) by omega)
        have hF622 := Fr_a (z := sy) (k := 17) (n := (nd).toNat) hF603 (by decide)
        obtain ⟨A620, eA620⟩ : ∃ q, q = uA A588 17 (nd).toNat (sy) := ⟨_, rfl⟩
        rw [← eA620]
        rw [← eA620] at hW621 hF622
        have q623 : A620 17 (nd).toNat = sy := by rw [eA620]; exact uA_eq
        have hP624 : Pf nd A A620 := eA620 ▸ Pf_a hP604 (z := nd) (by omega) (by omega)
        have hS625 : Fx sr (sy) A A620 := eA620 ▸ Fx_n hS605 rfl
        have hV626 : Fx [14] (vi) A A620 := eA620 ▸ Fx_n hV606 rfl
        have sf627 : ND A620 (nd) (29) (sy) (0) (0) (0) (0) (0) := ND_a eA620 sf607
        have sf628 : NdO A620 (nd) (nd + 1) (sy) (nd) := NdO_st eA620 (by decide) sf608
        have sf629 : YD A620 (sy) (10) (0) := YD_fx (by omega) (by omega) (Sg_ne (sb := sy + 1) eA620 rfl) a615
        have ec630 : ecn A620 (G587 31) = ec2_571 := (ecn_e ((congrFun eA620 15).trans (uA_ne (by decide)))).trans ec609
        refine jx_ld (pc' := 81) (l' := L586) (st' := [.ref 66]) rfl (jl_aloadn gL586_0) ?_
        refine jx_ar (pc' := 82) (st' := [.int (i32 (1)), .ref 66]) rfl rfl rfl rfl ?_
        refine jx_vr (pc' := 85) (as := [.int (i32 (1))]) (st := []) rfl rfl rfl rfl ⟨rfl, rfl, Nat.le_of_ble_eq_true rfl⟩ rfl rfl (c_need (dd := d) (hd := by omega) (hW := hW621) (g := 1) (ln := ln) (e_ln := show G587 9 = ln from ((hF595.1 9 rfl).trans ((hF573.1 9 rfl).trans ((hF551.1 9 rfl).trans (e_ln))))) (le := le) (e_le := show A620 4 (ln).toNat = le from (congrFun (((congrFun eA620 4).trans (uA_ne (by decide))).trans ((hF595.2 4 rfl).trans ((hF573.2 4 rfl).trans (hF551.2 4 rfl)))) _).trans (e_le)) (at0 := at2_548) (e_at0 := show G587 10 = at2_548 from ((hF595.1 10 rfl).trans ((hF573.1 10 rfl).trans (e552)))) (fk := fk2_592) (e_fk := show G587 16 = fk2_592 from (e600)) (tk0 := tk2_549) (e_tk0 := show G587 11 = tk2_549 from ((hF595.1 11 rfl).trans ((hF573.1 11 rfl).trans (e553))))  (h_g := ⟨(by decide), (by decide)⟩)  (p_0 := by omega)) (fun o V' hq => ?_)
        obtain ⟨G631, A632, at2_633, tk2_634, fk2_635, rfl, rfl, hW636, hF637, e638, e639, e640, p641, p642, q643⟩ := hq
        have hF644 := Fr_tr hF622 hF637 (Fr_sub (by decide)) (Fr_sub (by decide))
        have hP645 := Pf_f hP624 hF637 (by decide)
        have hS646 := Fx_f hS625 hF637 (by decide)
        have hV647 := Fx_f hV626 hF637 (by decide)
        have sf648 : ND A632 (nd) (29) (sy) (0) (0) (0) (0) (0) := ND_ag (by omega) (Ag_fr hF637 (by decide)) sf627
        have sf649 : NdO A632 (nd) (nd + 1) (sy) (nd) := NdO_f hF637 (by decide) sf628
        have sf650 : YD A632 (sy) (10) (0) := YD_fx (by omega) (by omega) (Sg_fr (sb := sy + 1) hF637 (by decide)) sf629
        have ec651 : ecn A632 (G631 31) = ec2_571 := (ecn_f (hF637.2 15 rfl) (hF637.1 31 rfl)).trans ec630
        have bat2_633 : (0 : Int) ≤ at2_633 ∧ at2_633 ≤ 3002 := e638 ▸ hW636.1 10
        have ztk2_634 := tz_b tk2_634
        have btk2_634 : (0 : Int) ≤ tk2_634 ∧ tk2_634 ≤ 5 := e639 ▸ hW636.1 11
        have bfk2_635 : (0 : Int) ≤ fk2_635 ∧ fk2_635 ≤ 6 := e640 ▸ hW636.1 16
        refine .inl ⟨rfl, ?_⟩
        rcases q643 with ⟨a652, a653, a654, a655⟩ | ⟨a656, a657, a658, a659⟩
        · have _q : True := trivial
          have z660 := tz_f (tk2_634)
          exact c_readPar_w_at_85p (X := X) (k := k) (hP := hP) (d := d) (Vs := Vs) (sb := sb) (pb := pb) (hvb := hvb) (c0 := c0) (c1 := c1) (G := G) (A := A) (T := T) (lv := lv) (ln := ln) (li := li) (at0 := at0) (fk := fk) (nd := nd) (sy := sy) (na := na) (vi := vi) (le := le) (op0 := op0) (tk0 := tk0) (ec := ec) (hd := hd) (hW := hW) (e_ln := e_ln) (e_li := e_li) (e_at0 := e_at0) (e_fk := e_fk) (e_nd := e_nd) (e_sy := e_sy) (e_na := e_na) (e_vi := e_vi) (e_le := e_le) (e_op0 := e_op0) (e_tk0 := e_tk0) (e_ec := e_ec) (i_LT := i_LT) (i_SV := i_SV) (i_PQ := i_PQ) (h_lv := h_lv) (p_0 := p_0) (p_1 := p_1) (p_2 := p_2) (p_3 := p_3) (p_4 := p_4) (p_5 := p_5) (p_6 := p_6) (p_7 := p_7) (p_8 := p_8) (p_9 := p_9) (p_10 := p_10) L586 G631 A632 (nd) (at2_633) (tk2_634) (fk2_635) (nd2_570) (op0) (sy2_590) (na2_591) (ec2_571) gL586_0 gL586_1 gL586_2 hW636 hF644 hP645 hS646 hV647 ((e638)) ((e639)) ((e640)) (((hF637.1 31 rfl).trans ((hF595.1 31 rfl).trans (e575)))) (((hF637.1 15 rfl).trans ((hF595.1 15 rfl).trans ((hF573.1 15 rfl).trans ((hF551.1 15 rfl).trans (e_op0)))))) (((hF637.1 19 rfl).trans (e598))) (((hF637.1 28 rfl).trans (e599))) (ec651) (((hF637.1 9 rfl).trans ((hF595.1 9 rfl).trans ((hF573.1 9 rfl).trans ((hF551.1 9 rfl).trans (e_ln)))))) (((hF637.1 29 rfl).trans ((hF595.1 29 rfl).trans ((hF573.1 29 rfl).trans ((hF551.1 29 rfl).trans (e_vi)))))) (by omega) (by omega) (by omega) (by omega) (by omega) (by omega) (by omega) (by omega) (by omega)
        · have _q : True := trivial
          have pz661 : at2_548 + tz tk2_634 ≤ at2_633 := by omega
          have z662 := tz_f (tk2_634)
          exact c_readPar_w_at_85 (X := X) (k := k) (hP := hP) (d := d) (Vs := Vs) (sb := sb) (pb := pb) (hvb := hvb) (c0 := c0) (c1 := c1) (G := G) (A := A) (T := T) (lv := lv) (ln := ln) (li := li) (at0 := at0) (fk := fk) (nd := nd) (sy := sy) (na := na) (vi := vi) (le := le) (op0 := op0) (tk0 := tk0) (ec := ec) (hd := hd) (hW := hW) (e_ln := e_ln) (e_li := e_li) (e_at0 := e_at0) (e_fk := e_fk) (e_nd := e_nd) (e_sy := e_sy) (e_na := e_na) (e_vi := e_vi) (e_le := e_le) (e_op0 := e_op0) (e_tk0 := e_tk0) (e_ec := e_ec) (i_LT := i_LT) (i_SV := i_SV) (i_PQ := i_PQ) (h_lv := h_lv) (p_0 := p_0) (p_1 := p_1) (p_2 := p_2) (p_3 := p_3) (p_4 := p_4) (p_5 := p_5) (p_6 := p_6) (p_7 := p_7) (p_8 := p_8) (p_9 := p_9) (p_10 := p_10) L586 G631 A632 (nd) (at2_633) (tk2_634) (fk2_635) (nd2_570) (op0) (sy2_590) (na2_591) (sy) (yk2_593) (ec2_571) gL586_0 gL586_1 gL586_2 hW636 hF644 hP645 hS646 hV647 ((e638)) ((e639)) ((e640)) (((hF637.1 31 rfl).trans ((hF595.1 31 rfl).trans (e575)))) (((hF637.1 15 rfl).trans ((hF595.1 15 rfl).trans ((hF573.1 15 rfl).trans ((hF551.1 15 rfl).trans (e_op0)))))) (((hF637.1 19 rfl).trans (e598))) (((hF637.1 28 rfl).trans (e599))) ((congrFun (hF637.2 17 rfl) _).trans (q623)) ((congrFun ((hF637.2 7 rfl).trans ((congrFun eA620 7).trans (uA_ne (by decide)))) _).trans (e601)) (ec651) (((hF637.1 9 rfl).trans ((hF595.1 9 rfl).trans ((hF573.1 9 rfl).trans ((hF551.1 9 rfl).trans (e_ln)))))) (((hF637.1 29 rfl).trans ((hF595.1 29 rfl).trans ((hF573.1 29 rfl).trans ((hF551.1 29 rfl).trans (e_vi)))))) (by omega) (by omega) (by omega) (by omega) (by omega) (by omega) (by omega) (by omega) (by omega) (by omega) (by omega) (by omega) (by omega) (sf648) (by omega) ((NdO_w sf649 (by omega) (by omega) (by omega)))
      · have _q : True := trivial
        refine jr_st (pc' := 80) (i := 17) (m := 7000) (z := nd) (y := 0) rfl (by decide) rfl (by decide) (by omega) (by omega) rfl ?_
        have hW664 : Wk G587 (uA A588 17 (nd).toNat (0)) := Wk_a hW594 (show (-2147483648 : Int) ≤ 0 by omega) (show 0 ≤ (2147483647 : Int) by omega)
        have hF665 := Fr_a (z := 0) (k := 17) (n := (nd).toNat) hF603 (by decide)
        obtain ⟨A663, eA663⟩ : ∃ q, q = uA A588 17 (nd).toNat (0) := ⟨_, rfl⟩
        rw [← eA663]
        rw [← eA663] at hW664 hF665
        have q666 : A663 17 (nd).toNat = 0 := by rw [eA663]; exact uA_eq
        have hP667 : Pf nd A A663 := eA663 ▸ Pf_a hP604 (z := nd) (by omega) (by omega)
        have hS668 : Fx sr (sy) A A663 := eA663 ▸ Fx_n hS605 rfl
        have hV669 : Fx [14] (vi) A A663 := eA663 ▸ Fx_n hV606 rfl
        have sf670 : ND A663 (nd) (29) (0) (0) (0) (0) (0) (0) := ND_a eA663 sf607
        have sf671 : NdO A663 (nd) (nd + 1) (sy) (nd) := NdO_st eA663 (by decide) sf608
        have ec672 : ecn A663 (G587 31) = ec2_571 := (ecn_e ((congrFun eA663 15).trans (uA_ne (by decide)))).trans ec609
        refine jx_ld (pc' := 81) (l' := L586) (st' := [.ref 66]) rfl (jl_aloadn gL586_0) ?_
        refine jx_ar (pc' := 82) (st' := [.int (i32 (1)), .ref 66]) rfl rfl rfl rfl ?_
        refine jx_vr (pc' := 85) (as := [.int (i32 (1))]) (st := []) rfl rfl rfl rfl ⟨rfl, rfl, Nat.le_of_ble_eq_true rfl⟩ rfl rfl (c_need (dd := d) (hd := by omega) (hW := hW664) (g := 1) (ln := ln) (e_ln := show G587 9 = ln from ((hF595.1 9 rfl).trans ((hF573.1 9 rfl).trans ((hF551.1 9 rfl).trans (e_ln))))) (le := le) (e_le := show A663 4 (ln).toNat = le from (congrFun (((congrFun eA663 4).trans (uA_ne (by decide))).trans ((hF595.2 4 rfl).trans ((hF573.2 4 rfl).trans (hF551.2 4 rfl)))) _).trans (e_le)) (at0 := at2_548) (e_at0 := show G587 10 = at2_548 from ((hF595.1 10 rfl).trans ((hF573.1 10 rfl).trans (e552)))) (fk := fk2_592) (e_fk := show G587 16 = fk2_592 from (e600)) (tk0 := tk2_549) (e_tk0 := show G587 11 = tk2_549 from ((hF595.1 11 rfl).trans ((hF573.1 11 rfl).trans (e553))))  (h_g := ⟨(by decide), (by decide)⟩)  (p_0 := by omega)) (fun o V' hq => ?_)
        obtain ⟨G673, A674, at2_675, tk2_676, fk2_677, rfl, rfl, hW678, hF679, e680, e681, e682, p683, p684, q685⟩ := hq
        have hF686 := Fr_tr hF665 hF679 (Fr_sub (by decide)) (Fr_sub (by decide))
        have hP687 := Pf_f hP667 hF679 (by decide)
        have hS688 := Fx_f hS668 hF679 (by decide)
        have hV689 := Fx_f hV669 hF679 (by decide)
        have sf690 : ND A674 (nd) (29) (0) (0) (0) (0) (0) (0) := ND_ag (by omega) (Ag_fr hF679 (by decide)) sf670
        have sf691 : NdO A674 (nd) (nd + 1) (sy) (nd) := NdO_f hF679 (by decide) sf671
        have ec692 : ecn A674 (G673 31) = ec2_571 := (ecn_f (hF679.2 15 rfl) (hF679.1 31 rfl)).trans ec672
        have bat2_675 : (0 : Int) ≤ at2_675 ∧ at2_675 ≤ 3002 := e680 ▸ hW678.1 10
        have ztk2_676 := tz_b tk2_676
        have btk2_676 : (0 : Int) ≤ tk2_676 ∧ tk2_676 ≤ 5 := e681 ▸ hW678.1 11
        have bfk2_677 : (0 : Int) ≤ fk2_677 ∧ fk2_677 ≤ 6 := e682 ▸ hW678.1 16
        refine .inl ⟨rfl, ?_⟩
        rcases q685 with ⟨a693, a694, a695, a696⟩ | ⟨a697, a698, a699, a700⟩
        · have _q : True := trivial
          have z701 := tz_f (tk2_676)
          exact c_readPar_w_at_85p (X := X) (k := k) (hP := hP) (d := d) (Vs := Vs) (sb := sb) (pb := pb) (hvb := hvb) (c0 := c0) (c1 := c1) (G := G) (A := A) (T := T) (lv := lv) (ln := ln) (li := li) (at0 := at0) (fk := fk) (nd := nd) (sy := sy) (na := na) (vi := vi) (le := le) (op0 := op0) (tk0 := tk0) (ec := ec) (hd := hd) (hW := hW) (e_ln := e_ln) (e_li := e_li) (e_at0 := e_at0) (e_fk := e_fk) (e_nd := e_nd) (e_sy := e_sy) (e_na := e_na) (e_vi := e_vi) (e_le := e_le) (e_op0 := e_op0) (e_tk0 := e_tk0) (e_ec := e_ec) (i_LT := i_LT) (i_SV := i_SV) (i_PQ := i_PQ) (h_lv := h_lv) (p_0 := p_0) (p_1 := p_1) (p_2 := p_2) (p_3 := p_3) (p_4 := p_4) (p_5 := p_5) (p_6 := p_6) (p_7 := p_7) (p_8 := p_8) (p_9 := p_9) (p_10 := p_10) L586 G673 A674 (nd) (at2_675) (tk2_676) (fk2_677) (nd2_570) (op0) (sy2_590) (na2_591) (ec2_571) gL586_0 gL586_1 gL586_2 hW678 hF686 hP687 hS688 hV689 ((e680)) ((e681)) ((e682)) (((hF679.1 31 rfl).trans ((hF595.1 31 rfl).trans (e575)))) (((hF679.1 15 rfl).trans ((hF595.1 15 rfl).trans ((hF573.1 15 rfl).trans ((hF551.1 15 rfl).trans (e_op0)))))) (((hF679.1 19 rfl).trans (e598))) (((hF679.1 28 rfl).trans (e599))) (ec692) (((hF679.1 9 rfl).trans ((hF595.1 9 rfl).trans ((hF573.1 9 rfl).trans ((hF551.1 9 rfl).trans (e_ln)))))) (((hF679.1 29 rfl).trans ((hF595.1 29 rfl).trans ((hF573.1 29 rfl).trans ((hF551.1 29 rfl).trans (e_vi)))))) (by omega) (by omega) (by omega) (by omega) (by omega) (by omega) (by omega) (by omega) (by omega)
        · have _q : True := trivial
          exfalso
          omega
    · have _q := h567
      refine jx_ld (pc' := 46) (l' := [(0, .ref 66), (1, .int (i32 (lv)))]) (st' := [.ref 66]) rfl (jl_aloadn rfl) ?_
      refine jx_ar (pc' := 47) (st' := [.int (i32 (1)), .ref 66]) rfl rfl rfl rfl ?_
      refine jx_ld (pc' := 48) (l' := [(0, .ref 66), (1, .int (i32 (lv)))]) (st' := [.ref 66, .int (i32 (1)), .ref 66]) rfl (jl_aloadn rfl) ?_
      have b702 : (-3000 : Int) ≤ G546 12 ∧ G546 12 ≤ 3002 := hW550.1 12
      refine jr_get (pc' := 51) (i := 12) (v := .int (i32 (G546 12))) rfl rfl (by decide) rfl rfl ?_
      refine jx_vr (pc' := 54) (as := [.int (i32 (1)), .int (i32 (G546 12))]) (st := []) rfl rfl rfl rfl ⟨rfl, rfl, Nat.le_of_ble_eq_true rfl⟩ rfl rfl (c_fail (dd := d) (hd := by omega) (hW := hW550) (kind := 1) (place := G546 12) (fk := fk) (e_fk := show G546 16 = fk from ((hF551.1 16 rfl).trans (e_fk)))  (h_kind := ⟨(by decide), (by decide)⟩) (h_place := ⟨(Int.le_trans (by decide : (-2147483648 : Int) ≤ -3000) b702.1), (Int.le_trans b702.2 (by decide : (3002 : Int) ≤ 2147483647))⟩)  (p_0 := by omega) (p_1 := by omega)) (fun o V' hq => ?_)
      obtain ⟨G703, A704, fk2_705, rfl, rfl, hW706, hF707, e708, p709, -⟩ := hq
      have hF711 := Fr_tr hF558 hF707 (Fr_sub (by decide)) (Fr_sub (by decide))
      have hP712 := Pf_f hP559 hF707 (by decide)
      have hS713 := Fx_f hS560 hF707 (by decide)
      have hV714 := Fx_f hV561 hF707 (by decide)
      have ec715 : ecn A704 (G703 31) = ec := (ecn_f (hF707.2 15 rfl) (hF707.1 31 rfl)).trans ec562
      have bfk2_705 : (0 : Int) ≤ fk2_705 ∧ fk2_705 ≤ 6 := e708 ▸ hW706.1 16
      refine .inl ⟨rfl, ?_⟩
      refine jx_ar (pc' := 55) (st' := [.int (i32 (0))]) rfl rfl rfl rfl ?_
      refine jx_rt (v := some (.int (i32 (0)))) rfl rfl rfl rfl rfl rfl ?_
      exact ⟨_, _, _, ln, at2_548, fk2_705, nd, sy, na, vi, A 3 (ln).toNat, ec, rfl, rfl, hW706, hF711, hP712, hS713, hV714, by omega, ((hF707.1 9 rfl).trans ((hF551.1 9 rfl).trans (e_ln))), ((hF707.1 10 rfl).trans (e552)), (e708), ((hF707.1 31 rfl).trans ((hF551.1 31 rfl).trans (e_nd))), ((hF707.1 19 rfl).trans ((hF551.1 19 rfl).trans (e_sy))), ((hF707.1 28 rfl).trans ((hF551.1 28 rfl).trans (e_na))), ((hF707.1 29 rfl).trans ((hF551.1 29 rfl).trans (e_vi))), (congrFun ((hF707.2 3 rfl).trans (hF551.2 3 rfl)) _), ec715, by omega, by omega, by omega, by omega, by omega, by omega, by omega, by omega, by omega, by omega, by first | exact Or.inl (⟨by omega, by omega⟩)⟩
  · have _q := h565
    refine jx_ld (pc' := 12) (l' := [(0, .ref 66), (1, .int (i32 (lv)))]) (st' := [.ref 66]) rfl (jl_aloadn rfl) ?_
    refine jx_ar (pc' := 14) (st' := [.int (i32 (28)), .ref 66]) rfl rfl rfl rfl ?_
    refine jx_ar (pc' := 15) (st' := [.int (i32 (0)), .int (i32 (28)), .ref 66]) rfl rfl rfl rfl ?_
    refine jx_ar (pc' := 16) (st' := [.int (i32 (0)), .int (i32 (0)), .int (i32 (28)), .ref 66]) rfl rfl rfl rfl ?_
    refine jx_ar (pc' := 17) (st' := [.int (i32 (0)), .int (i32 (0)), .int (i32 (0)), .int (i32 (28)), .ref 66]) rfl rfl rfl rfl ?_
    refine jx_ar (pc' := 18) (st' := [.int (i32 (0)), .int (i32 (0)), .int (i32 (0)), .int (i32 (0)), .int (i32 (28)), .ref 66]) rfl rfl rfl rfl ?_
    refine jx_vr (pc' := 21) (as := [.int (i32 (28)), .int (i32 (0)), .int (i32 (0)), .int (i32 (0)), .int (i32 (0))]) (st := []) rfl rfl rfl rfl ⟨rfl, rfl, Nat.le_of_ble_eq_true rfl⟩ rfl rfl (c_node_p (dd := d) (hd := by omega) (hW := hW550) (kind := 28) (a := 0) (b := 0) (c := 0) (e := 0) (nd := nd) (e_nd := show G546 31 = nd from ((hF551.1 31 rfl).trans (e_nd))) (ec := ec) (e_ec := show ecn A547 (G546 31) = ec from ec562) (sy := sy) (e_sy := show G546 19 = sy from ((hF551.1 19 rfl).trans (e_sy))) (ln := ln) (e_ln := show G546 9 = ln from ((hF551.1 9 rfl).trans (e_ln))) (li := li) (e_li := show G546 3 = li from ((hF551.1 3 rfl).trans (e_li)))  (h_kind := ⟨(by decide), (by decide)⟩) (h_a := ⟨(by decide), (by decide)⟩) (h_b := ⟨(by decide), (by decide)⟩) (h_c := ⟨(by decide), (by decide)⟩) (h_e := ⟨(by decide), (by decide)⟩)  (p_0 := by omega) (p_1 := by omega) (p_2 := by omega) (p_3 := by omega)) (fun o V' hq => ?_)
    obtain ⟨G716, A717, nd2_718, ec2_719, rfl, rfl, hW720, hF721, hQ722, e723, e724, p725, p726, p727, p728, -⟩ := hq
    have hF730 := Fr_tr hF558 hF721 (Fr_sub (by decide)) (Fr_sub (by decide))
    have hP731 := Pf_tr hP559 hQ722 (by omega)
    have hS732 := Fx_f hS560 hF721 (by decide)
    have hV733 := Fx_f hV561 hF721 (by decide)
    have bnd2_718 : (0 : Int) ≤ nd2_718 ∧ nd2_718 ≤ 6999 := e723 ▸ hW720.1 31
    refine .inr ⟨_, rfl, ?_⟩
    refine jx_ld (pc' := 22) (l' := jSto1 [(0, .ref 66), (1, .int (i32 (lv)))] 2 (.int (i32 (nd)))) (st' := []) rfl rfl ?_
    obtain ⟨L734, eL734⟩ : ∃ q, q = jSto1 [(0, .ref 66), (1, .int (i32 (lv)))] 2 (.int (i32 (nd))) := ⟨_, rfl⟩
    rw [← eL734]
    have gL734_0 : jGet L734 0 = some (.ref 66) := eL734 ▸ jg_ne (by decide) (rfl : jGet [(0, .ref 66), (1, .int (i32 (lv)))] 0 = some (.ref 66)) rfl
    have gL734_1 : jGet L734 1 = some (.int (i32 (lv))) := eL734 ▸ jg_ne (by decide) (rfl : jGet [(0, .ref 66), (1, .int (i32 (lv)))] 1 = some (.int (i32 (lv)))) rfl
    have gL734_2 : jGet L734 2 = some (.int (i32 (nd))) := eL734 ▸ jg_eq
    refine jx_ld (pc' := 23) (l' := L734) (st' := [.ref 66]) rfl (jl_aloadn gL734_0) ?_
    refine jx_vr (pc' := 26) (as := []) (st := []) rfl rfl rfl rfl ⟨rfl, rfl, Nat.le_of_ble_eq_true rfl⟩ rfl rfl (c_endLine (dd := d) (hd := by omega) (hW := hW720)  (ln := ln) (e_ln := show G716 9 = ln from ((hF721.1 9 rfl).trans ((hF551.1 9 rfl).trans (e_ln)))) (li := li) (e_li := show G716 3 = li from ((hF721.1 3 rfl).trans ((hF551.1 3 rfl).trans (e_li)))) (fk := fk) (e_fk := show G716 16 = fk from ((hF721.1 16 rfl).trans ((hF551.1 16 rfl).trans (e_fk)))) (tk0 := tk2_549) (e_tk0 := show G716 11 = tk2_549 from ((hF721.1 11 rfl).trans (e553)))    (p_0 := by omega)) (fun o V' hq => ?_)
    obtain ⟨G735, A736, ln2_737, fk2_738, rfl, rfl, hW739, hF740, e741, e742, q743⟩ := hq
    have hF744 := Fr_tr hF730 hF740 (Fr_sub (by decide)) (Fr_sub (by decide))
    have hP745 := Pf_f hP731 hF740 (by decide)
    have hS746 := Fx_f hS732 hF740 (by decide)
    have hV747 := Fx_f hV733 hF740 (by decide)
    have sf748 : ND A736 (nd) (28) (0) (0) (0) (0) (0) (0) := ND_ag (by omega) (Ag_fr hF740 (by decide)) p727
    have sf749 : NdO A736 (nd) (nd + 1) (sy) (nd) := NdO_f hF740 (by decide) p728
    have ec750 : ecn A736 (G735 31) = ec2_719 := (ecn_f (hF740.2 15 rfl) (hF740.1 31 rfl)).trans e724
    have bln2_737 : (0 : Int) ≤ ln2_737 ∧ ln2_737 ≤ 3000 := e741 ▸ hW739.1 9
    have bfk2_738 : (0 : Int) ≤ fk2_738 ∧ fk2_738 ≤ 6 := e742 ▸ hW739.1 16
    refine .inl ⟨rfl, ?_⟩
    rcases q743 with ⟨a751, a752, a753, a754, a755⟩ | ⟨a756, a757⟩
    · have _q : True := trivial
      have b758 : (0 : Int) ≤ A 3 (ln2_737).toNat ∧ A 3 (ln2_737).toNat ≤ 3000 := hW.2 3 _
      have lt759 : ln2_737 < li → le < A 3 (ln2_737).toNat := fun hh => LT_nx (LT_ext (((hF740.1 3 rfl).trans ((hF721.1 3 rfl).trans (hF551.1 3 rfl)))) (((hF740.2 3 rfl).trans ((hF721.2 3 rfl).trans (hF551.2 3 rfl)))) (((hF740.2 4 rfl).trans ((hF721.2 4 rfl).trans (hF551.2 4 rfl)))) i_LT) (show G735 3 = li from ((hF740.1 3 rfl).trans ((hF721.1 3 rfl).trans ((hF551.1 3 rfl).trans (e_li))))) (show A736 4 (ln).toNat = le from (congrFun ((hF740.2 4 rfl).trans ((hF721.2 4 rfl).trans (hF551.2 4 rfl))) _).trans (e_le)) (show A736 3 (ln2_737).toNat = A 3 (ln2_737).toNat from (congrFun ((hF740.2 3 rfl).trans ((hF721.2 3 rfl).trans (hF551.2 3 rfl))) _)) (show ln2_737 = ln + 1 by omega) (by omega) hh
      refine jx_ld (pc' := 27) (l' := L734) (st' := [.ref 66]) rfl (jl_aloadn gL734_0) ?_
      refine jx_ld (pc' := 28) (l' := L734) (st' := [.int (i32 (nd)), .ref 66]) rfl (jl_iloadn gL734_2) ?_
      refine jx_ld (pc' := 29) (l' := L734) (st' := [.int (i32 (lv)), .int (i32 (nd)), .ref 66]) rfl (jl_iloadn gL734_1) ?_
      refine jx_ar (pc' := 30) (st' := [.int (i32 (2)), .int (i32 (lv)), .int (i32 (nd)), .ref 66]) rfl rfl rfl rfl ?_
      refine jx_ar (pc' := 32) (st' := [.int (i32 (8)), .int (i32 (2)), .int (i32 (lv)), .int (i32 (nd)), .ref 66]) rfl rfl rfl rfl ?_
      refine jx_vr (pc' := 35) (as := [.int (i32 (nd)), .int (i32 (lv)), .int (i32 (2)), .int (i32 (8))]) (st := []) rfl rfl rfl rfl ⟨rfl, rfl, Nat.le_of_ble_eq_true rfl⟩ rfl rfl (c_readChildren_w (dd := d) (hP := hP) (zz := nd) (hd := by omega) (hW := hW739) (n := nd) (lv := lv) (least := 2) (mo := 8) (kk := 28) (aa := 0) (bb := 0) (cc := 0) (de := 0) (xx := 0) (ln := ln2_737) (e_ln := show G735 9 = ln2_737 from (e741)) (li := li) (e_li := show G735 3 = li from ((hF740.1 3 rfl).trans ((hF721.1 3 rfl).trans ((hF551.1 3 rfl).trans (e_li))))) (at0 := at2_548) (e_at0 := show G735 10 = at2_548 from ((hF740.1 10 rfl).trans ((hF721.1 10 rfl).trans (e552)))) (fk := fk2_738) (e_fk := show G735 16 = fk2_738 from (e742)) (nd := nd2_718) (e_nd := show G735 31 = nd2_718 from ((hF740.1 31 rfl).trans (e723))) (sy := sy) (e_sy := show G735 19 = sy from ((hF740.1 19 rfl).trans ((hF721.1 19 rfl).trans ((hF551.1 19 rfl).trans (e_sy))))) (na := na) (e_na := show G735 28 = na from ((hF740.1 28 rfl).trans ((hF721.1 28 rfl).trans ((hF551.1 28 rfl).trans (e_na))))) (vi := vi) (e_vi := show G735 29 = vi from ((hF740.1 29 rfl).trans ((hF721.1 29 rfl).trans ((hF551.1 29 rfl).trans (e_vi))))) (lf := A 3 (ln2_737).toNat) (e_lf := show A736 3 (ln2_737).toNat = A 3 (ln2_737).toNat from (congrFun ((hF740.2 3 rfl).trans ((hF721.2 3 rfl).trans (hF551.2 3 rfl))) _)) (ec := ec2_719) (e_ec := show ecn A736 (G735 31) = ec2_719 from ec750) (i_LT := (LT_ext (((hF740.1 3 rfl).trans ((hF721.1 3 rfl).trans (hF551.1 3 rfl)))) (((hF740.2 3 rfl).trans ((hF721.2 3 rfl).trans (hF551.2 3 rfl)))) (((hF740.2 4 rfl).trans ((hF721.2 4 rfl).trans (hF551.2 4 rfl)))) i_LT)) (i_SV := (SV_fx i_SV e_vi (show G735 29 = vi from ((hF740.1 29 rfl).trans ((hF721.1 29 rfl).trans ((hF551.1 29 rfl).trans (e_vi))))) (by omega) hV747)) (i_PQ := (PQ_fx i_PQ hS746 (by omega) (hF744.2 29 rfl) (hF744.2 30 rfl))) (hvb := hvb) (h_n := ⟨(Int.le_trans (by decide : (-2147483648 : Int) ≤ 0) b_nd.1), (Int.le_trans b_nd.2 (by decide : (6999 : Int) ≤ 2147483647))⟩) (h_lv := ⟨(Int.le_trans (by decide : (-2147483648 : Int) ≤ -2147483648) h_lv.1), (Int.le_trans h_lv.2 (by decide : (2147483647 : Int) ≤ 2147483647))⟩) (h_least := ⟨(by decide), (by decide)⟩) (h_mo := ⟨(by decide), (by decide)⟩)  (p_0 := by omega) (p_1 := by omega) (p_2 := by omega) (p_3 := by omega) (p_4 := by omega) (p_5 := by omega) (p_6 := by omega) (p_7 := by omega) (p_8 := by omega) (p_9 := by omega) (p_10 := by omega) (p_11 := by omega) (p_12 := by omega) (p_13 := by omega) (p_14 := by omega) (p_15 := sf748) (p_16 := sf749)) (fun o V' hq => ?_)
      obtain ⟨G760, A761, ln2_762, at2_763, fk2_764, nd2_765, sy2_766, na2_767, vi2_768, lf2_769, mm_770, f2_771, ec2_772, rfl, rfl, hW773, hF774, hQ775, hQ776, hQ777, hQ778, e779, e780, e781, e782, e783, e784, e785, e786, e787, e788, e789, p790, p791, p792, p793, p794, p795, p796, q797⟩ := hq
      have hF798 := Fr_tr hF744 hF774 (Fr_sub (by decide)) (Fr_sub (by decide))
      have hP799 := Pf_tr hP745 hQ775 (by omega)
      have hS800 := Fx_tr hS746 hQ777 (by omega)
      have hV801 := Fx_tr hV747 hQ778 (by omega)
      have sf802 : NdM A761 (nd + 1) (nd + 1) (sy) := NdM_px hQ776 (by omega) (by omega) (by omega) (NdO_r (lo' := nd + 1) (by omega) (by omega) sf749)
      have bln2_762 : (0 : Int) ≤ ln2_762 ∧ ln2_762 ≤ 3000 := e779 ▸ hW773.1 9
      have bat2_763 : (0 : Int) ≤ at2_763 ∧ at2_763 ≤ 3002 := e780 ▸ hW773.1 10
      have bfk2_764 : (0 : Int) ≤ fk2_764 ∧ fk2_764 ≤ 6 := e781 ▸ hW773.1 16
      have bnd2_765 : (0 : Int) ≤ nd2_765 ∧ nd2_765 ≤ 6999 := e782 ▸ hW773.1 31
      have bsy2_766 : (0 : Int) ≤ sy2_766 ∧ sy2_766 ≤ 202 := e783 ▸ hW773.1 19
      have bna2_767 : (0 : Int) ≤ na2_767 ∧ na2_767 ≤ 200 := e784 ▸ hW773.1 28
      have bvi2_768 : (0 : Int) ≤ vi2_768 ∧ vi2_768 ≤ 202 := e785 ▸ hW773.1 29
      have blf2_769 : (0 : Int) ≤ lf2_769 ∧ lf2_769 ≤ 3000 := e786 ▸ hW773.2 3 _
      have bmm_770 : (-2147483648 : Int) ≤ mm_770 ∧ mm_770 ≤ 2147483647 := e787 ▸ hW773.2 18 _
      have bf2_771 : (-2147483648 : Int) ≤ f2_771 ∧ f2_771 ≤ 2147483647 := e788 ▸ hW773.2 21 _
      refine .inl ⟨rfl, ?_⟩
      rcases q797 with ⟨a803, a804⟩ | ⟨a805, a806, a807, a808, a809, a810, a811, a812, a813, a814⟩
      · have _q : True := trivial
        refine jx_ld (pc' := 36) (l' := L734) (st' := [.int (i32 (nd))]) rfl (jl_iloadn gL734_2) ?_
        refine jx_rt (v := some (.int (i32 (nd)))) rfl rfl rfl rfl rfl rfl ?_
        exact ⟨_, _, _, ln2_762, at2_763, fk2_764, nd2_765, sy2_766, na2_767, vi2_768, lf2_769, ec2_772, rfl, rfl, hW773, hF798, hP799, hS800, hV801, by omega, (e779), (e780), (e781), (e782), (e783), (e784), (e785), (e786), e789, by omega, by omega, by omega, by omega, by omega, by omega, by omega, by omega, by omega, by omega, by first | exact Or.inl (⟨by omega, by omega⟩)⟩
      · have _q : True := trivial
        refine jx_ld (pc' := 36) (l' := L734) (st' := [.int (i32 (nd))]) rfl (jl_iloadn gL734_2) ?_
        refine jx_rt (v := some (.int (i32 (nd)))) rfl rfl rfl rfl rfl rfl ?_
        exact ⟨_, _, _, ln2_762, at2_763, fk2_764, nd2_765, sy2_766, na2_767, vi2_768, lf2_769, ec2_772, rfl, rfl, hW773, hF798, hP799, hS800, hV801, by omega, (e779), (e780), (e781), (e782), (e783), (e784), (e785), (e786), e789, by omega, by omega, by omega, by omega, by omega, by omega, by omega, by omega, by omega, by omega, by first | exact Or.inr ((⟨by omega, by omega, by omega, by omega, by omega, by omega, by omega, (wS_par a810 (RL_eq a811 (by omega) (by omega) (by omega) (by omega) (by omega)) (by omega) (by omega) (by omega)), (NX_nd a810), by omega, (NdO_w (NdO_app (sy := sy) a813 (NdO_app (sy := sy) (NdO_m (r := nd) sf802) (NdO_m (r := nd) a814) (by omega) (by omega) (by omega)) (by omega) (by omega) (by omega)) (by omega) (by omega) (by omega))⟩))⟩
    · have _q : True := trivial
      refine jx_ld (pc' := 27) (l' := L734) (st' := [.ref 66]) rfl (jl_aloadn gL734_0) ?_
      refine jx_ld (pc' := 28) (l' := L734) (st' := [.int (i32 (nd)), .ref 66]) rfl (jl_iloadn gL734_2) ?_
      refine jx_ld (pc' := 29) (l' := L734) (st' := [.int (i32 (lv)), .int (i32 (nd)), .ref 66]) rfl (jl_iloadn gL734_1) ?_
      refine jx_ar (pc' := 30) (st' := [.int (i32 (2)), .int (i32 (lv)), .int (i32 (nd)), .ref 66]) rfl rfl rfl rfl ?_
      refine jx_ar (pc' := 32) (st' := [.int (i32 (8)), .int (i32 (2)), .int (i32 (lv)), .int (i32 (nd)), .ref 66]) rfl rfl rfl rfl ?_
      refine jx_vr (pc' := 35) (as := [.int (i32 (nd)), .int (i32 (lv)), .int (i32 (2)), .int (i32 (8))]) (st := []) rfl rfl rfl rfl ⟨rfl, rfl, Nat.le_of_ble_eq_true rfl⟩ rfl rfl (c_readChildren_f (dd := d) (zz := nd) (hd := by omega) (hW := hW739) (n := nd) (lv := lv) (least := 2) (mo := 8) (fk := fk2_738) (e_fk := show G735 16 = fk2_738 from (e742))  (h_n := ⟨(Int.le_trans (by decide : (-2147483648 : Int) ≤ 0) b_nd.1), (Int.le_trans b_nd.2 (by decide : (6999 : Int) ≤ 2147483647))⟩) (h_lv := ⟨(Int.le_trans (by decide : (-2147483648 : Int) ≤ -2147483648) h_lv.1), (Int.le_trans h_lv.2 (by decide : (2147483647 : Int) ≤ 2147483647))⟩) (h_least := ⟨(by decide), (by decide)⟩) (h_mo := ⟨(by decide), (by decide)⟩)  (p_0 := by omega) (p_1 := by omega) (p_2 := by omega) (p_3 := by omega)) (fun o V' hq => ?_)
      obtain ⟨G815, A816, fk2_817, rfl, rfl, hW818, hF819, hQ820, e821, p822, -⟩ := hq
      have hF824 := Fr_tr hF744 hF819 (Fr_sub (by decide)) (Fr_sub (by decide))
      have hP825 := Pf_tr hP745 hQ820 (by omega)
      have hS826 := Fx_f hS746 hF819 (by decide)
      have hV827 := Fx_f hV747 hF819 (by decide)
      have sf828 : NdO A816 (nd) (nd + 1) (sy) (nd) := NdO_f hF819 (by decide) sf749
      have ec829 : ecn A816 (G815 31) = ec2_719 := (ecn_f (hF819.2 15 rfl) (hF819.1 31 rfl)).trans ec750
      have bfk2_817 : (0 : Int) ≤ fk2_817 ∧ fk2_817 ≤ 6 := e821 ▸ hW818.1 16
      refine .inl ⟨rfl, ?_⟩
      refine jx_ld (pc' := 36) (l' := L734) (st' := [.int (i32 (nd))]) rfl (jl_iloadn gL734_2) ?_
      refine jx_rt (v := some (.int (i32 (nd)))) rfl rfl rfl rfl rfl rfl ?_
      exact ⟨_, _, _, ln2_737, at2_548, fk2_817, nd2_718, sy, na, vi, A 3 (ln2_737).toNat, ec2_719, rfl, rfl, hW818, hF824, hP825, hS826, hV827, by omega, ((hF819.1 9 rfl).trans (e741)), ((hF819.1 10 rfl).trans ((hF740.1 10 rfl).trans ((hF721.1 10 rfl).trans (e552)))), (e821), ((hF819.1 31 rfl).trans ((hF740.1 31 rfl).trans (e723))), ((hF819.1 19 rfl).trans ((hF740.1 19 rfl).trans ((hF721.1 19 rfl).trans ((hF551.1 19 rfl).trans (e_sy))))), ((hF819.1 28 rfl).trans ((hF740.1 28 rfl).trans ((hF721.1 28 rfl).trans ((hF551.1 28 rfl).trans (e_na))))), ((hF819.1 29 rfl).trans ((hF740.1 29 rfl).trans ((hF721.1 29 rfl).trans ((hF551.1 29 rfl).trans (e_vi))))), (congrFun ((hF819.2 3 rfl).trans ((hF740.2 3 rfl).trans ((hF721.2 3 rfl).trans (hF551.2 3 rfl)))) _), ec829, by omega, by omega, by omega, by omega, by omega, by omega, by omega, by omega, by omega, by omega, by first | exact Or.inl (⟨by omega, by omega⟩)⟩
