set_option maxRecDepth 20000 in
set_option maxHeartbeats 4000000 in
theorem c_readSeq_w_at_126p {X : jX} {k : Nat} (hP : RPw X k) {d : Nat} {Vs : Nat → Prop} {sb pb : Int} (hvb : VB Vs sb) {c0 c1 : jC} {G : Nat → Int} {A : Nat → Nat → Int} {T : jH} {lv : Int} {ln li at0 fk nd sy na vi le op0 tk0 ec : Int} (hd : 8 * k + 82 ≤ d + 1) (hW : Wk G A) (e_ln : G 9 = ln) (e_li : G 3 = li) (e_at0 : G 10 = at0) (e_fk : G 16 = fk) (e_nd : G 31 = nd) (e_sy : G 19 = sy) (e_na : G 28 = na) (e_vi : G 29 = vi) (e_le : A 4 (ln).toNat = le) (e_op0 : G 15 = op0) (e_tk0 : G 11 = tk0) (e_ec : ecn A (G 31) = ec) (i_LT : LT G A) (i_SV : SV Vs sb G A) (i_PQ : PQ Vs sb pb G A) (h_lv : (-2147483648 : Int) ≤ lv ∧ lv ≤ 2147483647) (p_0 : 0 ≤ lv ∧ lv ≤ 15) (p_1 : 18 - lv ≤ ((k + 1 : Nat) : Int)) (p_2 : fk = 0) (p_3 : ln < li) (p_4 : at0 ≤ le) (p_5 : op0 = 0) (p_6 : nd ≤ 2 * at0 - tz tk0 + 30) (p_7 : sy ≤ na + 2) (p_8 : vi ≤ sy) (p_9 : sb = sy) (p_10 : 1 ≤ tk0) : ∀ (L : jL) (Gx : Nat → Int) (Ax : Nat → Nat → Int) (n at1 tk1 fk1 nd1 op1 sy1 na1 ec1 : Int), jGet L 0 = some (.ref 66) → jGet L 1 = some (.int (i32 (lv))) → jGet L 2 = some (.int (i32 n)) → Wk Gx Ax → Fr [9, 10, 11, 12, 13, 14, 15, 16, 17, 18, 19, 28, 29, 31] [6, 7, 8, 9, 10, 11, 12, 14, 15, 16, 17, 18, 19, 20, 21, 22, 23, 24, 28] G A Gx Ax → Pf nd A Ax → Fx sr (sy) A Ax → Fx [14] (vi) A Ax → Gx 10 = at1 → Gx 11 = tk1 → Gx 16 = fk1 → Gx 31 = nd1 → Gx 15 = op1 → Gx 19 = sy1 → Gx 28 = na1 → ecn Ax (Gx 31) = ec1 → Gx 9 = ln → Gx 29 = vi → ((-2147483648 : Int) ≤ n ∧ n ≤ 2147483647) → (1 ≤ fk1) → (at0 ≤ at1) → (at1 ≤ le) → (nd ≤ n ∧ n ≤ 6998 ∧ n < nd1) → (sy ≤ sy1) → (sy1 ≤ na1 + 2) → (0 ≤ op1 ∧ op1 ≤ 9) → (nd1 - nd ≤ 2 * at1 - 2 * at0 + 8) → wj X d jm297 (126, L, [], rV c0 c1 Gx Ax T) (fun o V' => ∃ (G' : Nat → Int) (A' : Nat → Nat → Int) (r : Int) (ln2 : Int) (at2 : Int) (fk2 : Int) (nd2 : Int) (sy2 : Int) (na2 : Int) (vi2 : Int) (lf2 : Int) (ec2 : Int), V' = rV c0 c1 G' A' T ∧ o = .inl (some (.int (i32 r))) ∧ Wk G' A' ∧ Fr [9, 10, 11, 12, 13, 14, 15, 16, 17, 18, 19, 28, 29, 31] [6, 7, 8, 9, 10, 11, 12, 14, 15, 16, 17, 18, 19, 20, 21, 22, 23, 24, 28] G A G' A' ∧ Pf nd A A' ∧ Fx sr (sy) A A' ∧ Fx [14] (vi) A A' ∧ ((-2147483648 : Int) ≤ r ∧ r ≤ 2147483647) ∧ G' 9 = ln2 ∧ G' 10 = at2 ∧ G' 16 = fk2 ∧ G' 31 = nd2 ∧ G' 19 = sy2 ∧ G' 28 = na2 ∧ G' 29 = vi2 ∧ A' 3 (ln2).toNat = lf2 ∧ ecn A' (G' 31) = ec2 ∧ (at0 ≤ at2) ∧ (nd ≤ nd2) ∧ (sy ≤ sy2) ∧ (sy2 ≤ na2 + 2) ∧ (vi ≤ vi2) ∧ (vi2 ≤ vi + 1) ∧ (0 ≤ r) ∧ (r ≤ 6999) ∧ (ln ≤ ln2) ∧ (ln2 ≤ li) ∧ (((1 ≤ fk2) ∧ (nd2 - nd ≤ 2 * at2 - (2 * at0 - tz tk0) + 14)) ∨ ((fk2 = 0) ∧ (vi2 = vi) ∧ (ln < ln2) ∧ (nd2 - nd ≤ 2 * at2 - (2 * at0 - tz tk0)) ∧ (at2 < lf2 ∨ li ≤ ln2) ∧ (nd ≤ r) ∧ (r < nd2) ∧ (wSt A' (sy2) pb (wP A' (sy2) pb (k)) (Vs) (r) (nd) (nd2) (sy) (sy2)) ∧ (NX A' (r)) ∧ (nd2 - nd + 5 * (ec2 - ec) ≤ 2 * at2 - (2 * at0 - tz tk0)) ∧ (nd + 5 * ec ≤ r)))) := by
  have hF0 : Fr [9, 10, 11, 12, 13, 14, 15, 16, 17, 18, 19, 28, 29, 31] [6, 7, 8, 9, 10, 11, 12, 14, 15, 16, 17, 18, 19, 20, 21, 22, 23, 24, 28] G A G A := Fr_rf
  have hP0 : Pf nd A A := Pf_rf
  have hS0 : Fx sr (sy) A A := Fx_rf
  have hV0 : Fx [14] (vi) A A := Fx_rf
  have b_ln : (0 : Int) ≤ ln ∧ ln ≤ 3000 := e_ln ▸ hW.1 9
  have b_li : (0 : Int) ≤ li ∧ li ≤ 3000 := e_li ▸ hW.1 3
  have b_at0 : (0 : Int) ≤ at0 ∧ at0 ≤ 3002 := e_at0 ▸ hW.1 10
  have b_fk : (0 : Int) ≤ fk ∧ fk ≤ 6 := e_fk ▸ hW.1 16
  have b_nd : (0 : Int) ≤ nd ∧ nd ≤ 6999 := e_nd ▸ hW.1 31
  have b_sy : (0 : Int) ≤ sy ∧ sy ≤ 202 := e_sy ▸ hW.1 19
  have b_na : (0 : Int) ≤ na ∧ na ≤ 200 := e_na ▸ hW.1 28
  have b_vi : (0 : Int) ≤ vi ∧ vi ≤ 202 := e_vi ▸ hW.1 29
  have b_le : (0 : Int) ≤ le ∧ le ≤ 3000 := e_le ▸ hW.2 4 _
  have b_op0 : (-2147483648 : Int) ≤ op0 ∧ op0 ≤ 2147483647 := e_op0 ▸ hW.1 15
  have z_tk0 := tz_f tk0
  have b_tk0 : (0 : Int) ≤ tk0 ∧ tk0 ≤ 5 := e_tk0 ▸ hW.1 11
  intro L Gx Ax n at1 tk1 fk1 nd1 op1 sy1 na1 ec1 gL_0 gL_1 gL_2 hWx hFx hPx hSx hVx ex_at1 ex_tk1 ex_fk1 ex_nd1 ex_op1 ex_sy1 ex_na1 ex_ec1 fx_9 fx_29 rx_n iv_0 iv_1 iv_2 iv_3 iv_4 iv_5 iv_6 iv_7
  have b_at1 : (0 : Int) ≤ at1 ∧ at1 ≤ 3002 := ex_at1 ▸ hWx.1 10
  have z_tk1 := tz_f tk1
  have b_tk1 : (0 : Int) ≤ tk1 ∧ tk1 ≤ 5 := ex_tk1 ▸ hWx.1 11
  have b_fk1 : (0 : Int) ≤ fk1 ∧ fk1 ≤ 6 := ex_fk1 ▸ hWx.1 16
  have b_nd1 : (0 : Int) ≤ nd1 ∧ nd1 ≤ 6999 := ex_nd1 ▸ hWx.1 31
  have b_op1 : (-2147483648 : Int) ≤ op1 ∧ op1 ≤ 2147483647 := ex_op1 ▸ hWx.1 15
  have b_sy1 : (0 : Int) ≤ sy1 ∧ sy1 ≤ 202 := ex_sy1 ▸ hWx.1 19
  have b_na1 : (0 : Int) ≤ na1 ∧ na1 ≤ 200 := ex_na1 ▸ hWx.1 28
  refine jx_ld (pc' := 127) (l' := L) (st' := [.ref 66]) rfl (jl_aloadn gL_0) ?_
  refine jx_vr (pc' := 130) (as := []) (st := []) rfl rfl rfl rfl ⟨rfl, rfl, Nat.le_of_ble_eq_true rfl⟩ rfl rfl (c_endLine (dd := d) (hd := by omega) (hW := hWx)  (ln := ln) (e_ln := show Gx 9 = ln from (fx_9)) (li := li) (e_li := show Gx 3 = li from ((hFx.1 3 rfl).trans (e_li))) (fk := fk1) (e_fk := show Gx 16 = fk1 from (ex_fk1)) (tk0 := tk1) (e_tk0 := show Gx 11 = tk1 from (ex_tk1))    (p_0 := by omega)) (fun o V' hq => ?_)
  obtain ⟨G1, A2, ln2_3, fk2_4, rfl, rfl, hW5, hF6, e7, e8, q9⟩ := hq
  have hF10 := Fr_tr hFx hF6 (Fr_sub (by decide)) (Fr_sub (by decide))
  have hP11 := Pf_f hPx hF6 (by decide)
  have hS12 := Fx_f hSx hF6 (by decide)
  have hV13 := Fx_f hVx hF6 (by decide)
  have ec14 : ecn A2 (G1 31) = ec1 := (ecn_f (hF6.2 15 rfl) (hF6.1 31 rfl)).trans ex_ec1
  have bln2_3 : (0 : Int) ≤ ln2_3 ∧ ln2_3 ≤ 3000 := e7 ▸ hW5.1 9
  have bfk2_4 : (0 : Int) ≤ fk2_4 ∧ fk2_4 ≤ 6 := e8 ▸ hW5.1 16
  refine .inl ⟨rfl, ?_⟩
  rcases q9 with ⟨a15, a16, a17, a18, a19⟩ | ⟨a20, a21⟩
  · have _q : True := trivial
    exfalso
    omega
  · have _q : True := trivial
    refine jx_ld (pc' := 131) (l' := L) (st' := [.ref 66]) rfl (jl_aloadn gL_0) ?_
    refine jx_ld (pc' := 132) (l' := L) (st' := [.int (i32 (n)), .ref 66]) rfl (jl_iloadn gL_2) ?_
    refine jx_ld (pc' := 133) (l' := L) (st' := [.int (i32 (lv)), .int (i32 (n)), .ref 66]) rfl (jl_iloadn gL_1) ?_
    refine jx_vr (pc' := 136) (as := [.int (i32 (n)), .int (i32 (lv))]) (st := []) rfl rfl rfl rfl ⟨rfl, rfl, Nat.le_of_ble_eq_true rfl⟩ rfl rfl (c_readIndexed_f (dd := d) (hd := by omega) (hW := hW5) (n := n) (lv := lv) (fk := fk2_4) (e_fk := show G1 16 = fk2_4 from (e8))  (h_n := ⟨(Int.le_trans (by decide : (-2147483648 : Int) ≤ -2147483648) rx_n.1), (Int.le_trans rx_n.2 (by decide : (2147483647 : Int) ≤ 2147483647))⟩) (h_lv := ⟨(Int.le_trans (by decide : (-2147483648 : Int) ≤ -2147483648) h_lv.1), (Int.le_trans h_lv.2 (by decide : (2147483647 : Int) ≤ 2147483647))⟩)  (p_0 := by omega)) (fun o V' hq => ?_)
    obtain ⟨r22, rfl, rfl, b23, p24, -⟩ := hq
    refine .inr ⟨_, rfl, ?_⟩
    refine jx_rt (v := some (.int (i32 (r22)))) rfl rfl rfl rfl rfl rfl ?_
    exact ⟨_, _, _, ln2_3, at1, fk2_4, nd1, sy1, na1, vi, A 3 (ln2_3).toNat, ec1, rfl, rfl, hW5, hF10, hP11, hS12, hV13, by omega, (e7), ((hF6.1 10 rfl).trans (ex_at1)), (e8), ((hF6.1 31 rfl).trans (ex_nd1)), ((hF6.1 19 rfl).trans (ex_sy1)), ((hF6.1 28 rfl).trans (ex_na1)), ((hF6.1 29 rfl).trans (fx_29)), (congrFun ((hF6.2 3 rfl).trans (hFx.2 3 rfl)) _), ec14, by omega, by omega, by omega, by omega, by omega, by omega, by omega, by omega, by omega, by omega, by first | exact Or.inl (⟨by omega, by omega⟩)⟩
set_option maxRecDepth 20000 in
set_option maxHeartbeats 4000000 in
theorem c_readSeq_w_at_116p {X : jX} {k : Nat} (hP : RPw X k) {d : Nat} {Vs : Nat → Prop} {sb pb : Int} (hvb : VB Vs sb) {c0 c1 : jC} {G : Nat → Int} {A : Nat → Nat → Int} {T : jH} {lv : Int} {ln li at0 fk nd sy na vi le op0 tk0 ec : Int} (hd : 8 * k + 82 ≤ d + 1) (hW : Wk G A) (e_ln : G 9 = ln) (e_li : G 3 = li) (e_at0 : G 10 = at0) (e_fk : G 16 = fk) (e_nd : G 31 = nd) (e_sy : G 19 = sy) (e_na : G 28 = na) (e_vi : G 29 = vi) (e_le : A 4 (ln).toNat = le) (e_op0 : G 15 = op0) (e_tk0 : G 11 = tk0) (e_ec : ecn A (G 31) = ec) (i_LT : LT G A) (i_SV : SV Vs sb G A) (i_PQ : PQ Vs sb pb G A) (h_lv : (-2147483648 : Int) ≤ lv ∧ lv ≤ 2147483647) (p_0 : 0 ≤ lv ∧ lv ≤ 15) (p_1 : 18 - lv ≤ ((k + 1 : Nat) : Int)) (p_2 : fk = 0) (p_3 : ln < li) (p_4 : at0 ≤ le) (p_5 : op0 = 0) (p_6 : nd ≤ 2 * at0 - tz tk0 + 30) (p_7 : sy ≤ na + 2) (p_8 : vi ≤ sy) (p_9 : sb = sy) (p_10 : 1 ≤ tk0) : ∀ (L : jL) (Gx : Nat → Int) (Ax : Nat → Nat → Int) (n at1 tk1 fk1 nd1 op1 sy1 na1 ec1 : Int), jGet L 0 = some (.ref 66) → jGet L 1 = some (.int (i32 (lv))) → jGet L 2 = some (.int (i32 n)) → Wk Gx Ax → Fr [9, 10, 11, 12, 13, 14, 15, 16, 17, 18, 19, 28, 29, 31] [6, 7, 8, 9, 10, 11, 12, 14, 15, 16, 17, 18, 19, 20, 21, 22, 23, 24, 28] G A Gx Ax → Pf nd A Ax → Fx sr (sy) A Ax → Fx [14] (vi) A Ax → Gx 10 = at1 → Gx 11 = tk1 → Gx 16 = fk1 → Gx 31 = nd1 → Gx 15 = op1 → Gx 19 = sy1 → Gx 28 = na1 → ecn Ax (Gx 31) = ec1 → Gx 9 = ln → Gx 29 = vi → ((-2147483648 : Int) ≤ n ∧ n ≤ 2147483647) → (1 ≤ fk1) → (at0 ≤ at1) → (at1 ≤ le) → (nd ≤ n ∧ n ≤ 6998 ∧ n < nd1) → (sy ≤ sy1) → (sy1 ≤ na1 + 2) → (0 ≤ op1 ∧ op1 ≤ 9) → (nd1 - nd ≤ 2 * at1 - 2 * at0 + 8) → wj X d jm297 (116, L, [], rV c0 c1 Gx Ax T) (fun o V' => ∃ (G' : Nat → Int) (A' : Nat → Nat → Int) (r : Int) (ln2 : Int) (at2 : Int) (fk2 : Int) (nd2 : Int) (sy2 : Int) (na2 : Int) (vi2 : Int) (lf2 : Int) (ec2 : Int), V' = rV c0 c1 G' A' T ∧ o = .inl (some (.int (i32 r))) ∧ Wk G' A' ∧ Fr [9, 10, 11, 12, 13, 14, 15, 16, 17, 18, 19, 28, 29, 31] [6, 7, 8, 9, 10, 11, 12, 14, 15, 16, 17, 18, 19, 20, 21, 22, 23, 24, 28] G A G' A' ∧ Pf nd A A' ∧ Fx sr (sy) A A' ∧ Fx [14] (vi) A A' ∧ ((-2147483648 : Int) ≤ r ∧ r ≤ 2147483647) ∧ G' 9 = ln2 ∧ G' 10 = at2 ∧ G' 16 = fk2 ∧ G' 31 = nd2 ∧ G' 19 = sy2 ∧ G' 28 = na2 ∧ G' 29 = vi2 ∧ A' 3 (ln2).toNat = lf2 ∧ ecn A' (G' 31) = ec2 ∧ (at0 ≤ at2) ∧ (nd ≤ nd2) ∧ (sy ≤ sy2) ∧ (sy2 ≤ na2 + 2) ∧ (vi ≤ vi2) ∧ (vi2 ≤ vi + 1) ∧ (0 ≤ r) ∧ (r ≤ 6999) ∧ (ln ≤ ln2) ∧ (ln2 ≤ li) ∧ (((1 ≤ fk2) ∧ (nd2 - nd ≤ 2 * at2 - (2 * at0 - tz tk0) + 14)) ∨ ((fk2 = 0) ∧ (vi2 = vi) ∧ (ln < ln2) ∧ (nd2 - nd ≤ 2 * at2 - (2 * at0 - tz tk0)) ∧ (at2 < lf2 ∨ li ≤ ln2) ∧ (nd ≤ r) ∧ (r < nd2) ∧ (wSt A' (sy2) pb (wP A' (sy2) pb (k)) (Vs) (r) (nd) (nd2) (sy) (sy2)) ∧ (NX A' (r)) ∧ (nd2 - nd + 5 * (ec2 - ec) ≤ 2 * at2 - (2 * at0 - tz tk0)) ∧ (nd + 5 * ec ≤ r)))) := by
  have hF0 : Fr [9, 10, 11, 12, 13, 14, 15, 16, 17, 18, 19, 28, 29, 31] [6, 7, 8, 9, 10, 11, 12, 14, 15, 16, 17, 18, 19, 20, 21, 22, 23, 24, 28] G A G A := Fr_rf
  have hP0 : Pf nd A A := Pf_rf
  have hS0 : Fx sr (sy) A A := Fx_rf
  have hV0 : Fx [14] (vi) A A := Fx_rf
  have b_ln : (0 : Int) ≤ ln ∧ ln ≤ 3000 := e_ln ▸ hW.1 9
  have b_li : (0 : Int) ≤ li ∧ li ≤ 3000 := e_li ▸ hW.1 3
  have b_at0 : (0 : Int) ≤ at0 ∧ at0 ≤ 3002 := e_at0 ▸ hW.1 10
  have b_fk : (0 : Int) ≤ fk ∧ fk ≤ 6 := e_fk ▸ hW.1 16
  have b_nd : (0 : Int) ≤ nd ∧ nd ≤ 6999 := e_nd ▸ hW.1 31
  have b_sy : (0 : Int) ≤ sy ∧ sy ≤ 202 := e_sy ▸ hW.1 19
  have b_na : (0 : Int) ≤ na ∧ na ≤ 200 := e_na ▸ hW.1 28
  have b_vi : (0 : Int) ≤ vi ∧ vi ≤ 202 := e_vi ▸ hW.1 29
  have b_le : (0 : Int) ≤ le ∧ le ≤ 3000 := e_le ▸ hW.2 4 _
  have b_op0 : (-2147483648 : Int) ≤ op0 ∧ op0 ≤ 2147483647 := e_op0 ▸ hW.1 15
  have z_tk0 := tz_f tk0
  have b_tk0 : (0 : Int) ≤ tk0 ∧ tk0 ≤ 5 := e_tk0 ▸ hW.1 11
  intro L Gx Ax n at1 tk1 fk1 nd1 op1 sy1 na1 ec1 gL_0 gL_1 gL_2 hWx hFx hPx hSx hVx ex_at1 ex_tk1 ex_fk1 ex_nd1 ex_op1 ex_sy1 ex_na1 ex_ec1 fx_9 fx_29 rx_n iv_0 iv_1 iv_2 iv_3 iv_4 iv_5 iv_6 iv_7
  have b_at1 : (0 : Int) ≤ at1 ∧ at1 ≤ 3002 := ex_at1 ▸ hWx.1 10
  have z_tk1 := tz_f tk1
  have b_tk1 : (0 : Int) ≤ tk1 ∧ tk1 ≤ 5 := ex_tk1 ▸ hWx.1 11
  have b_fk1 : (0 : Int) ≤ fk1 ∧ fk1 ≤ 6 := ex_fk1 ▸ hWx.1 16
  have b_nd1 : (0 : Int) ≤ nd1 ∧ nd1 ≤ 6999 := ex_nd1 ▸ hWx.1 31
  have b_op1 : (-2147483648 : Int) ≤ op1 ∧ op1 ≤ 2147483647 := ex_op1 ▸ hWx.1 15
  have b_sy1 : (0 : Int) ≤ sy1 ∧ sy1 ≤ 202 := ex_sy1 ▸ hWx.1 19
  have b_na1 : (0 : Int) ≤ na1 ∧ na1 ≤ 200 := ex_na1 ▸ hWx.1 28
  refine jx_ld (pc' := 117) (l' := L) (st' := [.ref 66]) rfl (jl_aloadn gL_0) ?_
  refine jr_get (pc' := 120) (i := 37) (v := .ref 87) rfl rfl (by decide) rfl rfl ?_
  refine jx_ld (pc' := 121) (l' := L) (st' := [.int (i32 (n)), .ref 87]) rfl (jl_iloadn gL_2) ?_
  refine jx_ld (pc' := 122) (l' := L) (st' := [.ref 66, .int (i32 (n)), .ref 87]) rfl (jl_aloadn gL_0) ?_
  refine jx_vr (pc' := 125) (as := []) (st := [.int (i32 (n)), .ref 87]) rfl rfl rfl rfl ⟨rfl, rfl, Nat.le_of_ble_eq_true rfl⟩ rfl rfl (RE_all X 9 (dd := d) (hd := by omega) (hW := hWx)  (ln := ln) (e_ln := show Gx 9 = ln from (fx_9)) (le := le) (e_le := show Ax 4 (ln).toNat = le from (congrFun (hFx.2 4 rfl) _).trans (e_le)) (at0 := at1) (e_at0 := show Gx 10 = at1 from (ex_at1)) (fk := fk1) (e_fk := show Gx 16 = fk1 from (ex_fk1)) (op0 := op1) (e_op0 := show Gx 15 = op1 from (ex_op1)) (nd := nd1) (e_nd := show Gx 31 = nd1 from (ex_nd1)) (tk0 := tk1) (e_tk0 := show Gx 11 = tk1 from (ex_tk1)) (ec := ec1) (e_ec := show ecn Ax (Gx 31) = ec1 from ex_ec1) (i_SV := (SV_fx i_SV e_vi (show Gx 29 = vi from (fx_29)) (by omega) hVx))   (p_0 := by omega) (p_1 := by omega) (p_2 := by omega) (p_3 := by omega) (p_4 := by omega) (p_5 := by omega)) (fun o V' hq => ?_)
  obtain ⟨G26, A27, r28, at2_29, fk2_30, op2_31, nd2_32, tk2_33, ec2_34, rfl, rfl, hW35, hF36, hQ37, b38, e39, e40, e41, e42, e43, e44, p45, p46, p47, p48, p49, p50, q51⟩ := hq
  have hF52 := Fr_tr hFx hF36 (Fr_sub (by decide)) (Fr_sub (by decide))
  have hP53 := Pf_tr hPx hQ37 (by omega)
  have hS54 := Fx_f hSx hF36 (by decide)
  have hV55 := Fx_f hVx hF36 (by decide)
  have bat2_29 : (0 : Int) ≤ at2_29 ∧ at2_29 ≤ 3002 := e39 ▸ hW35.1 10
  have bfk2_30 : (0 : Int) ≤ fk2_30 ∧ fk2_30 ≤ 6 := e40 ▸ hW35.1 16
  have bop2_31 : (-2147483648 : Int) ≤ op2_31 ∧ op2_31 ≤ 2147483647 := e41 ▸ hW35.1 15
  have bnd2_32 : (0 : Int) ≤ nd2_32 ∧ nd2_32 ≤ 6999 := e42 ▸ hW35.1 31
  have ztk2_33 := tz_b tk2_33
  have btk2_33 : (0 : Int) ≤ tk2_33 ∧ tk2_33 ≤ 5 := e43 ▸ hW35.1 11
  refine .inr ⟨_, rfl, ?_⟩
  rcases q51 with ⟨a56, a57, a58, a59, a60, a61⟩ | ⟨a62, a63, a64⟩ | ⟨a65, a66, a67, a68, a69⟩
  · have _q : True := trivial
    refine jr_st (pc' := 126) (i := 20) (m := 7000) (z := n) (y := r28) rfl (by decide) rfl (by decide) (by omega) (by omega) rfl ?_
    have hW71 : Wk G26 (uA A27 20 (n).toNat (r28)) := Wk_a hW35 (show (-2147483648 : Int) ≤ r28 by omega) (show r28 ≤ (2147483647 : Int) by omega)
    have hF72 := Fr_a (z := r28) (k := 20) (n := (n).toNat) hF52 (by decide)
    obtain ⟨A70, eA70⟩ : ∃ q, q = uA A27 20 (n).toNat (r28) := ⟨_, rfl⟩
    rw [← eA70]
    rw [← eA70] at hW71 hF72
    have q73 : A70 20 (n).toNat = r28 := by rw [eA70]; exact uA_eq
    have hP74 : Pf nd A A70 := eA70 ▸ Pf_a hP53 (z := n) (by omega) (by omega)
    have hS75 : Fx sr (sy) A A70 := eA70 ▸ Fx_n hS54 rfl
    have hV76 : Fx [14] (vi) A A70 := eA70 ▸ Fx_n hV55 rfl
    have ec77 : ecn A70 (G26 31) = ec2_34 := (ecn_e ((congrFun eA70 15).trans (uA_ne (by decide)))).trans e44
    have z78 := tz_f (tk2_33)
    exact c_readSeq_w_at_126p (X := X) (k := k) (hP := hP) (d := d) (Vs := Vs) (sb := sb) (pb := pb) (hvb := hvb) (c0 := c0) (c1 := c1) (G := G) (A := A) (T := T) (lv := lv) (ln := ln) (li := li) (at0 := at0) (fk := fk) (nd := nd) (sy := sy) (na := na) (vi := vi) (le := le) (op0 := op0) (tk0 := tk0) (ec := ec) (hd := hd) (hW := hW) (e_ln := e_ln) (e_li := e_li) (e_at0 := e_at0) (e_fk := e_fk) (e_nd := e_nd) (e_sy := e_sy) (e_na := e_na) (e_vi := e_vi) (e_le := e_le) (e_op0 := e_op0) (e_tk0 := e_tk0) (e_ec := e_ec) (i_LT := i_LT) (i_SV := i_SV) (i_PQ := i_PQ) (h_lv := h_lv) (p_0 := p_0) (p_1 := p_1) (p_2 := p_2) (p_3 := p_3) (p_4 := p_4) (p_5 := p_5) (p_6 := p_6) (p_7 := p_7) (p_8 := p_8) (p_9 := p_9) (p_10 := p_10) L G26 A70 (n) (at2_29) (tk2_33) (fk2_30) (nd2_32) (op2_31) (sy1) (na1) (ec2_34) gL_0 gL_1 gL_2 hW71 hF72 hP74 hS75 hV76 ((e39)) ((e43)) ((e40)) ((e42)) ((e41)) (((hF36.1 19 rfl).trans (ex_sy1))) (((hF36.1 28 rfl).trans (ex_na1))) (ec77) (((hF36.1 9 rfl).trans (fx_9))) (((hF36.1 29 rfl).trans (fx_29))) (by omega) (by omega) (by omega) (by omega) (by omega) (by omega) (by omega) (by omega) (by omega)
  · have _q : True := trivial
    exfalso
    omega
  · have _q : True := trivial
    exfalso
    omega
set_option maxRecDepth 20000 in
set_option maxHeartbeats 4000000 in
theorem c_readSeq_w_at_106p {X : jX} {k : Nat} (hP : RPw X k) {d : Nat} {Vs : Nat → Prop} {sb pb : Int} (hvb : VB Vs sb) {c0 c1 : jC} {G : Nat → Int} {A : Nat → Nat → Int} {T : jH} {lv : Int} {ln li at0 fk nd sy na vi le op0 tk0 ec : Int} (hd : 8 * k + 82 ≤ d + 1) (hW : Wk G A) (e_ln : G 9 = ln) (e_li : G 3 = li) (e_at0 : G 10 = at0) (e_fk : G 16 = fk) (e_nd : G 31 = nd) (e_sy : G 19 = sy) (e_na : G 28 = na) (e_vi : G 29 = vi) (e_le : A 4 (ln).toNat = le) (e_op0 : G 15 = op0) (e_tk0 : G 11 = tk0) (e_ec : ecn A (G 31) = ec) (i_LT : LT G A) (i_SV : SV Vs sb G A) (i_PQ : PQ Vs sb pb G A) (h_lv : (-2147483648 : Int) ≤ lv ∧ lv ≤ 2147483647) (p_0 : 0 ≤ lv ∧ lv ≤ 15) (p_1 : 18 - lv ≤ ((k + 1 : Nat) : Int)) (p_2 : fk = 0) (p_3 : ln < li) (p_4 : at0 ≤ le) (p_5 : op0 = 0) (p_6 : nd ≤ 2 * at0 - tz tk0 + 30) (p_7 : sy ≤ na + 2) (p_8 : vi ≤ sy) (p_9 : sb = sy) (p_10 : 1 ≤ tk0) : ∀ (L : jL) (Gx : Nat → Int) (Ax : Nat → Nat → Int) (n at1 tk1 fk1 nd1 op1 sy1 na1 ec1 : Int), jGet L 0 = some (.ref 66) → jGet L 1 = some (.int (i32 (lv))) → jGet L 2 = some (.int (i32 n)) → Wk Gx Ax → Fr [9, 10, 11, 12, 13, 14, 15, 16, 17, 18, 19, 28, 29, 31] [6, 7, 8, 9, 10, 11, 12, 14, 15, 16, 17, 18, 19, 20, 21, 22, 23, 24, 28] G A Gx Ax → Pf nd A Ax → Fx sr (sy) A Ax → Fx [14] (vi) A Ax → Gx 10 = at1 → Gx 11 = tk1 → Gx 16 = fk1 → Gx 31 = nd1 → Gx 15 = op1 → Gx 19 = sy1 → Gx 28 = na1 → ecn Ax (Gx 31) = ec1 → Gx 9 = ln → Gx 29 = vi → ((-2147483648 : Int) ≤ n ∧ n ≤ 2147483647) → (1 ≤ fk1) → (at0 ≤ at1) → (at1 ≤ le) → (nd ≤ n ∧ n ≤ 6998 ∧ n < nd1) → (sy ≤ sy1) → (sy1 ≤ na1 + 2) → (0 ≤ op1 ∧ op1 ≤ 9) → (nd1 - nd ≤ 2 * at1 - 2 * at0 + 8) → wj X d jm297 (106, L, [], rV c0 c1 Gx Ax T) (fun o V' => ∃ (G' : Nat → Int) (A' : Nat → Nat → Int) (r : Int) (ln2 : Int) (at2 : Int) (fk2 : Int) (nd2 : Int) (sy2 : Int) (na2 : Int) (vi2 : Int) (lf2 : Int) (ec2 : Int), V' = rV c0 c1 G' A' T ∧ o = .inl (some (.int (i32 r))) ∧ Wk G' A' ∧ Fr [9, 10, 11, 12, 13, 14, 15, 16, 17, 18, 19, 28, 29, 31] [6, 7, 8, 9, 10, 11, 12, 14, 15, 16, 17, 18, 19, 20, 21, 22, 23, 24, 28] G A G' A' ∧ Pf nd A A' ∧ Fx sr (sy) A A' ∧ Fx [14] (vi) A A' ∧ ((-2147483648 : Int) ≤ r ∧ r ≤ 2147483647) ∧ G' 9 = ln2 ∧ G' 10 = at2 ∧ G' 16 = fk2 ∧ G' 31 = nd2 ∧ G' 19 = sy2 ∧ G' 28 = na2 ∧ G' 29 = vi2 ∧ A' 3 (ln2).toNat = lf2 ∧ ecn A' (G' 31) = ec2 ∧ (at0 ≤ at2) ∧ (nd ≤ nd2) ∧ (sy ≤ sy2) ∧ (sy2 ≤ na2 + 2) ∧ (vi ≤ vi2) ∧ (vi2 ≤ vi + 1) ∧ (0 ≤ r) ∧ (r ≤ 6999) ∧ (ln ≤ ln2) ∧ (ln2 ≤ li) ∧ (((1 ≤ fk2) ∧ (nd2 - nd ≤ 2 * at2 - (2 * at0 - tz tk0) + 14)) ∨ ((fk2 = 0) ∧ (vi2 = vi) ∧ (ln < ln2) ∧ (nd2 - nd ≤ 2 * at2 - (2 * at0 - tz tk0)) ∧ (at2 < lf2 ∨ li ≤ ln2) ∧ (nd ≤ r) ∧ (r < nd2) ∧ (wSt A' (sy2) pb (wP A' (sy2) pb (k)) (Vs) (r) (nd) (nd2) (sy) (sy2)) ∧ (NX A' (r)) ∧ (nd2 - nd + 5 * (ec2 - ec) ≤ 2 * at2 - (2 * at0 - tz tk0)) ∧ (nd + 5 * ec ≤ r)))) := by
  have hF0 : Fr [9, 10, 11, 12, 13, 14, 15, 16, 17, 18, 19, 28, 29, 31] [6, 7, 8, 9, 10, 11, 12, 14, 15, 16, 17, 18, 19, 20, 21, 22, 23, 24, 28] G A G A := Fr_rf
  have hP0 : Pf nd A A := Pf_rf
  have hS0 : Fx sr (sy) A A := Fx_rf
  have hV0 : Fx [14] (vi) A A := Fx_rf
  have b_ln : (0 : Int) ≤ ln ∧ ln ≤ 3000 := e_ln ▸ hW.1 9
  have b_li : (0 : Int) ≤ li ∧ li ≤ 3000 := e_li ▸ hW.1 3
  have b_at0 : (0 : Int) ≤ at0 ∧ at0 ≤ 3002 := e_at0 ▸ hW.1 10
  have b_fk : (0 : Int) ≤ fk ∧ fk ≤ 6 := e_fk ▸ hW.1 16
  have b_nd : (0 : Int) ≤ nd ∧ nd ≤ 6999 := e_nd ▸ hW.1 31
  have b_sy : (0 : Int) ≤ sy ∧ sy ≤ 202 := e_sy ▸ hW.1 19
  have b_na : (0 : Int) ≤ na ∧ na ≤ 200 := e_na ▸ hW.1 28
  have b_vi : (0 : Int) ≤ vi ∧ vi ≤ 202 := e_vi ▸ hW.1 29
  have b_le : (0 : Int) ≤ le ∧ le ≤ 3000 := e_le ▸ hW.2 4 _
  have b_op0 : (-2147483648 : Int) ≤ op0 ∧ op0 ≤ 2147483647 := e_op0 ▸ hW.1 15
  have z_tk0 := tz_f tk0
  have b_tk0 : (0 : Int) ≤ tk0 ∧ tk0 ≤ 5 := e_tk0 ▸ hW.1 11
  intro L Gx Ax n at1 tk1 fk1 nd1 op1 sy1 na1 ec1 gL_0 gL_1 gL_2 hWx hFx hPx hSx hVx ex_at1 ex_tk1 ex_fk1 ex_nd1 ex_op1 ex_sy1 ex_na1 ex_ec1 fx_9 fx_29 rx_n iv_0 iv_1 iv_2 iv_3 iv_4 iv_5 iv_6 iv_7
  have b_at1 : (0 : Int) ≤ at1 ∧ at1 ≤ 3002 := ex_at1 ▸ hWx.1 10
  have z_tk1 := tz_f tk1
  have b_tk1 : (0 : Int) ≤ tk1 ∧ tk1 ≤ 5 := ex_tk1 ▸ hWx.1 11
  have b_fk1 : (0 : Int) ≤ fk1 ∧ fk1 ≤ 6 := ex_fk1 ▸ hWx.1 16
  have b_nd1 : (0 : Int) ≤ nd1 ∧ nd1 ≤ 6999 := ex_nd1 ▸ hWx.1 31
  have b_op1 : (-2147483648 : Int) ≤ op1 ∧ op1 ≤ 2147483647 := ex_op1 ▸ hWx.1 15
  have b_sy1 : (0 : Int) ≤ sy1 ∧ sy1 ≤ 202 := ex_sy1 ▸ hWx.1 19
  have b_na1 : (0 : Int) ≤ na1 ∧ na1 ≤ 200 := ex_na1 ▸ hWx.1 28
  refine jx_ld (pc' := 107) (l' := L) (st' := [.ref 66]) rfl (jl_aloadn gL_0) ?_
  refine jx_ld (pc' := 108) (l' := L) (st' := [.ref 66, .ref 66]) rfl (jl_aloadn gL_0) ?_
  refine jx_ar (pc' := 110) (st' := [.int (i32 (13)), .ref 66, .ref 66]) rfl rfl rfl rfl ?_
  have b79 : (-2147483648 : Int) ≤ Gx 13 ∧ Gx 13 ≤ 2147483647 := hWx.1 13
  refine jx_vr (pc' := 113) (as := [.int (i32 (13))]) (st := [.ref 66]) rfl rfl rfl rfl ⟨rfl, rfl, Nat.le_of_ble_eq_true rfl⟩ rfl rfl (c_isKey (dd := d) (hd := by omega) (hW := hWx) (k := 13) (tk := tk1) (e_tk := show Gx 11 = tk1 from (ex_tk1)) (tn := Gx 13) (e_tn := show Gx 13 = Gx 13 from rfl)  (h_k := ⟨(by decide), (by decide)⟩)  ) (fun o V' hq => ?_)
  obtain ⟨r80, rfl, rfl, b81, q82⟩ := hq
  refine .inr ⟨_, rfl, ?_⟩
  rcases q82 with ⟨rfl, a83, a84, a85⟩ | rfl
  · have _q : True := trivial
    refine jx_vr (pc' := 116) (as := [.int (i32 (1))]) (st := []) rfl rfl rfl rfl ⟨rfl, rfl, Nat.le_of_ble_eq_true rfl⟩ rfl rfl (c_need (dd := d) (hd := by omega) (hW := hWx) (g := 1) (ln := ln) (e_ln := show Gx 9 = ln from (fx_9)) (le := le) (e_le := show Ax 4 (ln).toNat = le from (congrFun (hFx.2 4 rfl) _).trans (e_le)) (at0 := at1) (e_at0 := show Gx 10 = at1 from (ex_at1)) (fk := fk1) (e_fk := show Gx 16 = fk1 from (ex_fk1)) (tk0 := tk1) (e_tk0 := show Gx 11 = tk1 from (ex_tk1))  (h_g := ⟨(by decide), (by decide)⟩)  (p_0 := by omega)) (fun o V' hq => ?_)
    obtain ⟨G86, A87, at2_88, tk2_89, fk2_90, rfl, rfl, hW91, hF92, e93, e94, e95, p96, p97, q98⟩ := hq
    have hF99 := Fr_tr hFx hF92 (Fr_sub (by decide)) (Fr_sub (by decide))
    have hP100 := Pf_f hPx hF92 (by decide)
    have hS101 := Fx_f hSx hF92 (by decide)
    have hV102 := Fx_f hVx hF92 (by decide)
    have ec103 : ecn A87 (G86 31) = ec1 := (ecn_f (hF92.2 15 rfl) (hF92.1 31 rfl)).trans ex_ec1
    have bat2_88 : (0 : Int) ≤ at2_88 ∧ at2_88 ≤ 3002 := e93 ▸ hW91.1 10
    have ztk2_89 := tz_b tk2_89
    have btk2_89 : (0 : Int) ≤ tk2_89 ∧ tk2_89 ≤ 5 := e94 ▸ hW91.1 11
    have bfk2_90 : (0 : Int) ≤ fk2_90 ∧ fk2_90 ≤ 6 := e95 ▸ hW91.1 16
    refine .inl ⟨rfl, ?_⟩
    rcases q98 with ⟨a104, a105, a106, a107⟩ | ⟨a108, a109, a110, a111⟩
    · have _q : True := trivial
      have z112 := tz_f (tk2_89)
      exact c_readSeq_w_at_116p (X := X) (k := k) (hP := hP) (d := d) (Vs := Vs) (sb := sb) (pb := pb) (hvb := hvb) (c0 := c0) (c1 := c1) (G := G) (A := A) (T := T) (lv := lv) (ln := ln) (li := li) (at0 := at0) (fk := fk) (nd := nd) (sy := sy) (na := na) (vi := vi) (le := le) (op0 := op0) (tk0 := tk0) (ec := ec) (hd := hd) (hW := hW) (e_ln := e_ln) (e_li := e_li) (e_at0 := e_at0) (e_fk := e_fk) (e_nd := e_nd) (e_sy := e_sy) (e_na := e_na) (e_vi := e_vi) (e_le := e_le) (e_op0 := e_op0) (e_tk0 := e_tk0) (e_ec := e_ec) (i_LT := i_LT) (i_SV := i_SV) (i_PQ := i_PQ) (h_lv := h_lv) (p_0 := p_0) (p_1 := p_1) (p_2 := p_2) (p_3 := p_3) (p_4 := p_4) (p_5 := p_5) (p_6 := p_6) (p_7 := p_7) (p_8 := p_8) (p_9 := p_9) (p_10 := p_10) L G86 A87 (n) (at2_88) (tk2_89) (fk2_90) (nd1) (op1) (sy1) (na1) (ec1) gL_0 gL_1 gL_2 hW91 hF99 hP100 hS101 hV102 ((e93)) ((e94)) ((e95)) (((hF92.1 31 rfl).trans (ex_nd1))) (((hF92.1 15 rfl).trans (ex_op1))) (((hF92.1 19 rfl).trans (ex_sy1))) (((hF92.1 28 rfl).trans (ex_na1))) (ec103) (((hF92.1 9 rfl).trans (fx_9))) (((hF92.1 29 rfl).trans (fx_29))) (by omega) (by omega) (by omega) (by omega) (by omega) (by omega) (by omega) (by omega) (by omega)
    · have _q : True := trivial
      exfalso
      omega
  · have _q : True := trivial
    refine jx_vr (pc' := 116) (as := [.int (i32 (0))]) (st := []) rfl rfl rfl rfl ⟨rfl, rfl, Nat.le_of_ble_eq_true rfl⟩ rfl rfl (c_need (dd := d) (hd := by omega) (hW := hWx) (g := 0) (ln := ln) (e_ln := show Gx 9 = ln from (fx_9)) (le := le) (e_le := show Ax 4 (ln).toNat = le from (congrFun (hFx.2 4 rfl) _).trans (e_le)) (at0 := at1) (e_at0 := show Gx 10 = at1 from (ex_at1)) (fk := fk1) (e_fk := show Gx 16 = fk1 from (ex_fk1)) (tk0 := tk1) (e_tk0 := show Gx 11 = tk1 from (ex_tk1))  (h_g := ⟨(by decide), (by decide)⟩)  (p_0 := by omega)) (fun o V' hq => ?_)
    obtain ⟨G113, A114, at2_115, tk2_116, fk2_117, rfl, rfl, hW118, hF119, e120, e121, e122, p123, p124, q125⟩ := hq
    have hF126 := Fr_tr hFx hF119 (Fr_sub (by decide)) (Fr_sub (by decide))
    have hP127 := Pf_f hPx hF119 (by decide)
    have hS128 := Fx_f hSx hF119 (by decide)
    have hV129 := Fx_f hVx hF119 (by decide)
    have ec130 : ecn A114 (G113 31) = ec1 := (ecn_f (hF119.2 15 rfl) (hF119.1 31 rfl)).trans ex_ec1
    have bat2_115 : (0 : Int) ≤ at2_115 ∧ at2_115 ≤ 3002 := e120 ▸ hW118.1 10
    have ztk2_116 := tz_b tk2_116
    have btk2_116 : (0 : Int) ≤ tk2_116 ∧ tk2_116 ≤ 5 := e121 ▸ hW118.1 11
    have bfk2_117 : (0 : Int) ≤ fk2_117 ∧ fk2_117 ≤ 6 := e122 ▸ hW118.1 16
    refine .inl ⟨rfl, ?_⟩
    rcases q125 with ⟨a131, a132, a133, a134⟩ | ⟨a135, a136, a137, a138⟩
    · have _q : True := trivial
      have z139 := tz_f (tk2_116)
      exact c_readSeq_w_at_116p (X := X) (k := k) (hP := hP) (d := d) (Vs := Vs) (sb := sb) (pb := pb) (hvb := hvb) (c0 := c0) (c1 := c1) (G := G) (A := A) (T := T) (lv := lv) (ln := ln) (li := li) (at0 := at0) (fk := fk) (nd := nd) (sy := sy) (na := na) (vi := vi) (le := le) (op0 := op0) (tk0 := tk0) (ec := ec) (hd := hd) (hW := hW) (e_ln := e_ln) (e_li := e_li) (e_at0 := e_at0) (e_fk := e_fk) (e_nd := e_nd) (e_sy := e_sy) (e_na := e_na) (e_vi := e_vi) (e_le := e_le) (e_op0 := e_op0) (e_tk0 := e_tk0) (e_ec := e_ec) (i_LT := i_LT) (i_SV := i_SV) (i_PQ := i_PQ) (h_lv := h_lv) (p_0 := p_0) (p_1 := p_1) (p_2 := p_2) (p_3 := p_3) (p_4 := p_4) (p_5 := p_5) (p_6 := p_6) (p_7 := p_7) (p_8 := p_8) (p_9 := p_9) (p_10 := p_10) L G113 A114 (n) (at2_115) (tk2_116) (fk2_117) (nd1) (op1) (sy1) (na1) (ec1) gL_0 gL_1 gL_2 hW118 hF126 hP127 hS128 hV129 ((e120)) ((e121)) ((e122)) (((hF119.1 31 rfl).trans (ex_nd1))) (((hF119.1 15 rfl).trans (ex_op1))) (((hF119.1 19 rfl).trans (ex_sy1))) (((hF119.1 28 rfl).trans (ex_na1))) (ec130) (((hF119.1 9 rfl).trans (fx_9))) (((hF119.1 29 rfl).trans (fx_29))) (by omega) (by omega) (by omega) (by omega) (by omega) (by omega) (by omega) (by omega) (by omega)
    · have _q : True := trivial
      exfalso
      omega
set_option maxRecDepth 20000 in
set_option maxHeartbeats 4000000 in
theorem c_readSeq_w_at_106 {X : jX} {k : Nat} (hP : RPw X k) {d : Nat} {Vs : Nat → Prop} {sb pb : Int} (hvb : VB Vs sb) {c0 c1 : jC} {G : Nat → Int} {A : Nat → Nat → Int} {T : jH} {lv : Int} {ln li at0 fk nd sy na vi le op0 tk0 ec : Int} (hd : 8 * k + 82 ≤ d + 1) (hW : Wk G A) (e_ln : G 9 = ln) (e_li : G 3 = li) (e_at0 : G 10 = at0) (e_fk : G 16 = fk) (e_nd : G 31 = nd) (e_sy : G 19 = sy) (e_na : G 28 = na) (e_vi : G 29 = vi) (e_le : A 4 (ln).toNat = le) (e_op0 : G 15 = op0) (e_tk0 : G 11 = tk0) (e_ec : ecn A (G 31) = ec) (i_LT : LT G A) (i_SV : SV Vs sb G A) (i_PQ : PQ Vs sb pb G A) (h_lv : (-2147483648 : Int) ≤ lv ∧ lv ≤ 2147483647) (p_0 : 0 ≤ lv ∧ lv ≤ 15) (p_1 : 18 - lv ≤ ((k + 1 : Nat) : Int)) (p_2 : fk = 0) (p_3 : ln < li) (p_4 : at0 ≤ le) (p_5 : op0 = 0) (p_6 : nd ≤ 2 * at0 - tz tk0 + 30) (p_7 : sy ≤ na + 2) (p_8 : vi ≤ sy) (p_9 : sb = sy) (p_10 : 1 ≤ tk0) : ∀ (L : jL) (Gx : Nat → Int) (Ax : Nat → Nat → Int) (n at1 tk1 fk1 nd1 op1 sy1 na1 sa1 ka1 ec ec1 : Int), jGet L 0 = some (.ref 66) → jGet L 1 = some (.int (i32 (lv))) → jGet L 2 = some (.int (i32 n)) → Wk Gx Ax → Fr [9, 10, 11, 12, 13, 14, 15, 16, 17, 18, 19, 28, 29, 31] [6, 7, 8, 9, 10, 11, 12, 14, 15, 16, 17, 18, 19, 20, 21, 22, 23, 24, 28] G A Gx Ax → Pf nd A Ax → Fx sr (sy) A Ax → Fx [14] (vi) A Ax → Gx 10 = at1 → Gx 11 = tk1 → Gx 16 = fk1 → Gx 31 = nd1 → Gx 15 = op1 → Gx 19 = sy1 → Gx 28 = na1 → Ax 17 (n).toNat = sa1 → Ax 7 (sa1).toNat = ka1 → Ax 19 (n).toNat = ec → ecn Ax (Gx 31) = ec1 → Gx 9 = ln → Gx 29 = vi → ((-2147483648 : Int) ≤ n ∧ n ≤ 2147483647) → (fk1 = 0) → (at0 ≤ at1) → (at1 ≤ le) → (n = nd) → (n ≤ 6998 ∧ n < nd1) → (sy1 = sy + 1) → (sa1 = sy) → (sy1 ≤ na1 + 2) → (op1 = 0) → (nd1 - nd ≤ (2 * at1 - tz tk1) - (2 * at0 - tz tk0)) → (ka1 = 9) → (ND Ax (n) (27) (sa1) (0) (ec) (0) (0) (0)) → (wE Ax Vs sb (20) (ec) (n + 1) (nd1)) → (nd1 - nd + 5 * (ec1 - ec) ≤ (2 * at1 - tz tk1) - (2 * at0 - tz tk0)) → wj X d jm297 (106, L, [], rV c0 c1 Gx Ax T) (fun o V' => ∃ (G' : Nat → Int) (A' : Nat → Nat → Int) (r : Int) (ln2 : Int) (at2 : Int) (fk2 : Int) (nd2 : Int) (sy2 : Int) (na2 : Int) (vi2 : Int) (lf2 : Int) (ec2 : Int), V' = rV c0 c1 G' A' T ∧ o = .inl (some (.int (i32 r))) ∧ Wk G' A' ∧ Fr [9, 10, 11, 12, 13, 14, 15, 16, 17, 18, 19, 28, 29, 31] [6, 7, 8, 9, 10, 11, 12, 14, 15, 16, 17, 18, 19, 20, 21, 22, 23, 24, 28] G A G' A' ∧ Pf nd A A' ∧ Fx sr (sy) A A' ∧ Fx [14] (vi) A A' ∧ ((-2147483648 : Int) ≤ r ∧ r ≤ 2147483647) ∧ G' 9 = ln2 ∧ G' 10 = at2 ∧ G' 16 = fk2 ∧ G' 31 = nd2 ∧ G' 19 = sy2 ∧ G' 28 = na2 ∧ G' 29 = vi2 ∧ A' 3 (ln2).toNat = lf2 ∧ ecn A' (G' 31) = ec2 ∧ (at0 ≤ at2) ∧ (nd ≤ nd2) ∧ (sy ≤ sy2) ∧ (sy2 ≤ na2 + 2) ∧ (vi ≤ vi2) ∧ (vi2 ≤ vi + 1) ∧ (0 ≤ r) ∧ (r ≤ 6999) ∧ (ln ≤ ln2) ∧ (ln2 ≤ li) ∧ (((1 ≤ fk2) ∧ (nd2 - nd ≤ 2 * at2 - (2 * at0 - tz tk0) + 14)) ∨ ((fk2 = 0) ∧ (vi2 = vi) ∧ (ln < ln2) ∧ (nd2 - nd ≤ 2 * at2 - (2 * at0 - tz tk0)) ∧ (at2 < lf2 ∨ li ≤ ln2) ∧ (nd ≤ r) ∧ (r < nd2) ∧ (wSt A' (sy2) pb (wP A' (sy2) pb (k)) (Vs) (r) (nd) (nd2) (sy) (sy2)) ∧ (NX A' (r)) ∧ (nd2 - nd + 5 * (ec2 - ec) ≤ 2 * at2 - (2 * at0 - tz tk0)) ∧ (nd + 5 * ec ≤ r)))) := by
  have hF0 : Fr [9, 10, 11, 12, 13, 14, 15, 16, 17, 18, 19, 28, 29, 31] [6, 7, 8, 9, 10, 11, 12, 14, 15, 16, 17, 18, 19, 20, 21, 22, 23, 24, 28] G A G A := Fr_rf
  have hP0 : Pf nd A A := Pf_rf
  have hS0 : Fx sr (sy) A A := Fx_rf
  have hV0 : Fx [14] (vi) A A := Fx_rf
  have b_ln : (0 : Int) ≤ ln ∧ ln ≤ 3000 := e_ln ▸ hW.1 9
  have b_li : (0 : Int) ≤ li ∧ li ≤ 3000 := e_li ▸ hW.1 3
  have b_at0 : (0 : Int) ≤ at0 ∧ at0 ≤ 3002 := e_at0 ▸ hW.1 10
  have b_fk : (0 : Int) ≤ fk ∧ fk ≤ 6 := e_fk ▸ hW.1 16
  have b_nd : (0 : Int) ≤ nd ∧ nd ≤ 6999 := e_nd ▸ hW.1 31
  have b_sy : (0 : Int) ≤ sy ∧ sy ≤ 202 := e_sy ▸ hW.1 19
  have b_na : (0 : Int) ≤ na ∧ na ≤ 200 := e_na ▸ hW.1 28
  have b_vi : (0 : Int) ≤ vi ∧ vi ≤ 202 := e_vi ▸ hW.1 29
  have b_le : (0 : Int) ≤ le ∧ le ≤ 3000 := e_le ▸ hW.2 4 _
  have b_op0 : (-2147483648 : Int) ≤ op0 ∧ op0 ≤ 2147483647 := e_op0 ▸ hW.1 15
  have z_tk0 := tz_f tk0
  have b_tk0 : (0 : Int) ≤ tk0 ∧ tk0 ≤ 5 := e_tk0 ▸ hW.1 11
  intro L Gx Ax n at1 tk1 fk1 nd1 op1 sy1 na1 sa1 ka1 ec ec1 gL_0 gL_1 gL_2 hWx hFx hPx hSx hVx ex_at1 ex_tk1 ex_fk1 ex_nd1 ex_op1 ex_sy1 ex_na1 ex_sa1 ex_ka1 ex_ec ex_ec1 fx_9 fx_29 rx_n iv_0 iv_1 iv_2 iv_3 iv_4 iv_5 iv_6 iv_7 iv_8 iv_9 iv_10 iv_11 iv_12 iv_13
  have b_at1 : (0 : Int) ≤ at1 ∧ at1 ≤ 3002 := ex_at1 ▸ hWx.1 10
  have z_tk1 := tz_f tk1
  have b_tk1 : (0 : Int) ≤ tk1 ∧ tk1 ≤ 5 := ex_tk1 ▸ hWx.1 11
  have b_fk1 : (0 : Int) ≤ fk1 ∧ fk1 ≤ 6 := ex_fk1 ▸ hWx.1 16
  have b_nd1 : (0 : Int) ≤ nd1 ∧ nd1 ≤ 6999 := ex_nd1 ▸ hWx.1 31
  have b_op1 : (-2147483648 : Int) ≤ op1 ∧ op1 ≤ 2147483647 := ex_op1 ▸ hWx.1 15
  have b_sy1 : (0 : Int) ≤ sy1 ∧ sy1 ≤ 202 := ex_sy1 ▸ hWx.1 19
  have b_na1 : (0 : Int) ≤ na1 ∧ na1 ≤ 200 := ex_na1 ▸ hWx.1 28
  refine jx_ld (pc' := 107) (l' := L) (st' := [.ref 66]) rfl (jl_aloadn gL_0) ?_
  refine jx_ld (pc' := 108) (l' := L) (st' := [.ref 66, .ref 66]) rfl (jl_aloadn gL_0) ?_
  refine jx_ar (pc' := 110) (st' := [.int (i32 (13)), .ref 66, .ref 66]) rfl rfl rfl rfl ?_
  have b140 : (-2147483648 : Int) ≤ Gx 13 ∧ Gx 13 ≤ 2147483647 := hWx.1 13
  refine jx_vr (pc' := 113) (as := [.int (i32 (13))]) (st := [.ref 66]) rfl rfl rfl rfl ⟨rfl, rfl, Nat.le_of_ble_eq_true rfl⟩ rfl rfl (c_isKey (dd := d) (hd := by omega) (hW := hWx) (k := 13) (tk := tk1) (e_tk := show Gx 11 = tk1 from (ex_tk1)) (tn := Gx 13) (e_tn := show Gx 13 = Gx 13 from rfl)  (h_k := ⟨(by decide), (by decide)⟩)  ) (fun o V' hq => ?_)
  obtain ⟨r141, rfl, rfl, b142, q143⟩ := hq
  refine .inr ⟨_, rfl, ?_⟩
  rcases q143 with ⟨rfl, a144, a145, a146⟩ | rfl
  · have _q : True := trivial
    refine jx_vr (pc' := 116) (as := [.int (i32 (1))]) (st := []) rfl rfl rfl rfl ⟨rfl, rfl, Nat.le_of_ble_eq_true rfl⟩ rfl rfl (c_need (dd := d) (hd := by omega) (hW := hWx) (g := 1) (ln := ln) (e_ln := show Gx 9 = ln from (fx_9)) (le := le) (e_le := show Ax 4 (ln).toNat = le from (congrFun (hFx.2 4 rfl) _).trans (e_le)) (at0 := at1) (e_at0 := show Gx 10 = at1 from (ex_at1)) (fk := fk1) (e_fk := show Gx 16 = fk1 from (ex_fk1)) (tk0 := tk1) (e_tk0 := show Gx 11 = tk1 from (ex_tk1))  (h_g := ⟨(by decide), (by decide)⟩)  (p_0 := by omega)) (fun o V' hq => ?_)
    obtain ⟨G147, A148, at2_149, tk2_150, fk2_151, rfl, rfl, hW152, hF153, e154, e155, e156, p157, p158, q159⟩ := hq
    have hF160 := Fr_tr hFx hF153 (Fr_sub (by decide)) (Fr_sub (by decide))
    have hP161 := Pf_f hPx hF153 (by decide)
    have hS162 := Fx_f hSx hF153 (by decide)
    have hV163 := Fx_f hVx hF153 (by decide)
    have sf164 : ND A148 (n) (27) (sa1) (0) (ec) (0) (0) (0) := ND_ag (by omega) (Ag_fr hF153 (by decide)) iv_11
    have sf165 : wE A148 Vs sb (20) (ec) (n + 1) (nd1) := wE_ag (by omega) (Sg_fr hF153 (by decide)) (Ag_fr hF153 (by decide)) iv_12
    have ec166 : ecn A148 (G147 31) = ec1 := (ecn_f (hF153.2 15 rfl) (hF153.1 31 rfl)).trans ex_ec1
    have bat2_149 : (0 : Int) ≤ at2_149 ∧ at2_149 ≤ 3002 := e154 ▸ hW152.1 10
    have ztk2_150 := tz_b tk2_150
    have btk2_150 : (0 : Int) ≤ tk2_150 ∧ tk2_150 ≤ 5 := e155 ▸ hW152.1 11
    have bfk2_151 : (0 : Int) ≤ fk2_151 ∧ fk2_151 ≤ 6 := e156 ▸ hW152.1 16
    refine .inl ⟨rfl, ?_⟩
    rcases q159 with ⟨a167, a168, a169, a170⟩ | ⟨a171, a172, a173, a174⟩
    · have _q : True := trivial
      have z175 := tz_f (tk2_150)
      exact c_readSeq_w_at_116p (X := X) (k := k) (hP := hP) (d := d) (Vs := Vs) (sb := sb) (pb := pb) (hvb := hvb) (c0 := c0) (c1 := c1) (G := G) (A := A) (T := T) (lv := lv) (ln := ln) (li := li) (at0 := at0) (fk := fk) (nd := nd) (sy := sy) (na := na) (vi := vi) (le := le) (op0 := op0) (tk0 := tk0) (ec := ec) (hd := hd) (hW := hW) (e_ln := e_ln) (e_li := e_li) (e_at0 := e_at0) (e_fk := e_fk) (e_nd := e_nd) (e_sy := e_sy) (e_na := e_na) (e_vi := e_vi) (e_le := e_le) (e_op0 := e_op0) (e_tk0 := e_tk0) (e_ec := e_ec) (i_LT := i_LT) (i_SV := i_SV) (i_PQ := i_PQ) (h_lv := h_lv) (p_0 := p_0) (p_1 := p_1) (p_2 := p_2) (p_3 := p_3) (p_4 := p_4) (p_5 := p_5) (p_6 := p_6) (p_7 := p_7) (p_8 := p_8) (p_9 := p_9) (p_10 := p_10) L G147 A148 (n) (at2_149) (tk2_150) (fk2_151) (nd1) (op1) (sy1) (na1) (ec1) gL_0 gL_1 gL_2 hW152 hF160 hP161 hS162 hV163 ((e154)) ((e155)) ((e156)) (((hF153.1 31 rfl).trans (ex_nd1))) (((hF153.1 15 rfl).trans (ex_op1))) (((hF153.1 19 rfl).trans (ex_sy1))) (((hF153.1 28 rfl).trans (ex_na1))) (ec166) (((hF153.1 9 rfl).trans (fx_9))) (((hF153.1 29 rfl).trans (fx_29))) (by omega) (by omega) (by omega) (by omega) (by omega) (by omega) (by omega) (by omega) (by omega)
    · have _q : True := trivial
      refine jx_ld (pc' := 117) (l' := L) (st' := [.ref 66]) rfl (jl_aloadn gL_0) ?_
      refine jr_get (pc' := 120) (i := 37) (v := .ref 87) rfl rfl (by decide) rfl rfl ?_
      refine jx_ld (pc' := 121) (l' := L) (st' := [.int (i32 (n)), .ref 87]) rfl (jl_iloadn gL_2) ?_
      refine jx_ld (pc' := 122) (l' := L) (st' := [.ref 66, .int (i32 (n)), .ref 87]) rfl (jl_aloadn gL_0) ?_
      refine jx_vr (pc' := 125) (as := []) (st := [.int (i32 (n)), .ref 87]) rfl rfl rfl rfl ⟨rfl, rfl, Nat.le_of_ble_eq_true rfl⟩ rfl rfl (RE_all X 9 (dd := d) (hd := by omega) (hW := hW152)  (ln := ln) (e_ln := show G147 9 = ln from ((hF153.1 9 rfl).trans (fx_9))) (le := le) (e_le := show A148 4 (ln).toNat = le from (congrFun ((hF153.2 4 rfl).trans (hFx.2 4 rfl)) _).trans (e_le)) (at0 := at2_149) (e_at0 := show G147 10 = at2_149 from (e154)) (fk := fk2_151) (e_fk := show G147 16 = fk2_151 from (e156)) (op0 := op1) (e_op0 := show G147 15 = op1 from ((hF153.1 15 rfl).trans (ex_op1))) (nd := nd1) (e_nd := show G147 31 = nd1 from ((hF153.1 31 rfl).trans (ex_nd1))) (tk0 := tk2_150) (e_tk0 := show G147 11 = tk2_150 from (e155)) (ec := ec1) (e_ec := show ecn A148 (G147 31) = ec1 from ec166) (i_SV := (SV_fx i_SV e_vi (show G147 29 = vi from ((hF153.1 29 rfl).trans (fx_29))) (by omega) hV163))   (p_0 := by omega) (p_1 := by omega) (p_2 := by omega) (p_3 := by omega) (p_4 := by omega) (p_5 := by omega)) (fun o V' hq => ?_)
      obtain ⟨G176, A177, r178, at2_179, fk2_180, op2_181, nd2_182, tk2_183, ec2_184, rfl, rfl, hW185, hF186, hQ187, b188, e189, e190, e191, e192, e193, e194, p195, p196, p197, p198, p199, p200, q201⟩ := hq
      have hF202 := Fr_tr hF160 hF186 (Fr_sub (by decide)) (Fr_sub (by decide))
      have k203 : A177 17 (n).toNat = sa1 := (hQ187 17 _ rfl (by omega)).trans (show A148 17 (n).toNat = sa1 from (congrFun (hF153.2 17 rfl) _).trans (ex_sa1))
      have k204 : A177 19 (n).toNat = ec := (hQ187 19 _ rfl (by omega)).trans (show A148 19 (n).toNat = ec from (congrFun (hF153.2 19 rfl) _).trans (ex_ec))
      have hP205 := Pf_tr hP161 hQ187 (by omega)
      have hS206 := Fx_f hS162 hF186 (by decide)
      have hV207 := Fx_f hV163 hF186 (by decide)
      have sf208 : ND A177 (n) (27) (sa1) (0) (ec) (0) (0) (0) := ND_ag (by omega) (Ag_pf hQ187 (by omega)) sf164
      have sf209 : wE A177 Vs sb (20) (ec) (n + 1) (nd1) := wE_ag (by omega) (Sg_fr hF186 (by decide)) (Ag_pf hQ187 (by omega)) sf165
      have bat2_179 : (0 : Int) ≤ at2_179 ∧ at2_179 ≤ 3002 := e189 ▸ hW185.1 10
      have bfk2_180 : (0 : Int) ≤ fk2_180 ∧ fk2_180 ≤ 6 := e190 ▸ hW185.1 16
      have bop2_181 : (-2147483648 : Int) ≤ op2_181 ∧ op2_181 ≤ 2147483647 := e191 ▸ hW185.1 15
      have bnd2_182 : (0 : Int) ≤ nd2_182 ∧ nd2_182 ≤ 6999 := e192 ▸ hW185.1 31
      have ztk2_183 := tz_b tk2_183
      have btk2_183 : (0 : Int) ≤ tk2_183 ∧ tk2_183 ≤ 5 := e193 ▸ hW185.1 11
      refine .inr ⟨_, rfl, ?_⟩
      rcases q201 with ⟨a210, a211, a212, a213, a214, a215⟩ | ⟨a216, a217, a218⟩ | ⟨a219, a220, a221, a222, a223⟩
      · have _q : True := trivial
        exfalso
        omega
      · have _q : True := trivial
        refine jr_st (pc' := 126) (i := 20) (m := 7000) (z := n) (y := r178) rfl (by decide) rfl (by decide) (by omega) (by omega) rfl ?_
        have hW225 : Wk G176 (uA A177 20 (n).toNat (r178)) := Wk_a hW185 (show (-2147483648 : Int) ≤ r178 by omega) (show r178 ≤ (2147483647 : Int) by omega)
        have hF226 := Fr_a (z := r178) (k := 20) (n := (n).toNat) hF202 (by decide)
        obtain ⟨A224, eA224⟩ : ∃ q, q = uA A177 20 (n).toNat (r178) := ⟨_, rfl⟩
        rw [← eA224]
        rw [← eA224] at hW225 hF226
        have q227 : A224 20 (n).toNat = r178 := by rw [eA224]; exact uA_eq
        have hP228 : Pf nd A A224 := eA224 ▸ Pf_a hP205 (z := n) (by omega) (by omega)
        have hS229 : Fx sr (sy) A A224 := eA224 ▸ Fx_n hS206 rfl
        have hV230 : Fx [14] (vi) A A224 := eA224 ▸ Fx_n hV207 rfl
        have sf231 : ND A224 (n) (27) (sa1) (0) (ec) (r178) (0) (0) := ND_d eA224 sf208
        have sf232 : wE A224 Vs sb (20) (ec) (n + 1) (nd1) := wE_ag (by omega) (Sg_ne eA224 rfl) (Ag_st eA224 (by omega) (by omega)) sf209
        have ec233 : ecn A224 (G176 31) = ec2_184 := (ecn_e ((congrFun eA224 15).trans (uA_ne (by decide)))).trans e194
        have z234 := tz_f (tk2_183)
        exact c_readSeq_w_at_126p (X := X) (k := k) (hP := hP) (d := d) (Vs := Vs) (sb := sb) (pb := pb) (hvb := hvb) (c0 := c0) (c1 := c1) (G := G) (A := A) (T := T) (lv := lv) (ln := ln) (li := li) (at0 := at0) (fk := fk) (nd := nd) (sy := sy) (na := na) (vi := vi) (le := le) (op0 := op0) (tk0 := tk0) (ec := ec) (hd := hd) (hW := hW) (e_ln := e_ln) (e_li := e_li) (e_at0 := e_at0) (e_fk := e_fk) (e_nd := e_nd) (e_sy := e_sy) (e_na := e_na) (e_vi := e_vi) (e_le := e_le) (e_op0 := e_op0) (e_tk0 := e_tk0) (e_ec := e_ec) (i_LT := i_LT) (i_SV := i_SV) (i_PQ := i_PQ) (h_lv := h_lv) (p_0 := p_0) (p_1 := p_1) (p_2 := p_2) (p_3 := p_3) (p_4 := p_4) (p_5 := p_5) (p_6 := p_6) (p_7 := p_7) (p_8 := p_8) (p_9 := p_9) (p_10 := p_10) L G176 A224 (n) (at2_179) (tk2_183) (fk2_180) (nd2_182) (op2_181) (sy1) (na1) (ec2_184) gL_0 gL_1 gL_2 hW225 hF226 hP228 hS229 hV230 ((e189)) ((e193)) ((e190)) ((e192)) ((e191)) (((hF186.1 19 rfl).trans ((hF153.1 19 rfl).trans (ex_sy1)))) (((hF186.1 28 rfl).trans ((hF153.1 28 rfl).trans (ex_na1)))) (ec233) (((hF186.1 9 rfl).trans ((hF153.1 9 rfl).trans (fx_9)))) (((hF186.1 29 rfl).trans ((hF153.1 29 rfl).trans (fx_29)))) (by omega) (by omega) (by omega) (by omega) (by omega) (by omega) (by omega) (by omega) (by omega)
      · have _q : True := trivial
        refine jr_st (pc' := 126) (i := 20) (m := 7000) (z := n) (y := r178) rfl (by decide) rfl (by decide) (by omega) (by omega) rfl ?_
        have hW236 : Wk G176 (uA A177 20 (n).toNat (r178)) := Wk_a hW185 (show (-2147483648 : Int) ≤ r178 by omega) (show r178 ≤ (2147483647 : Int) by omega)
        have hF237 := Fr_a (z := r178) (k := 20) (n := (n).toNat) hF202 (by decide)
        obtain ⟨A235, eA235⟩ : ∃ q, q = uA A177 20 (n).toNat (r178) := ⟨_, rfl⟩
        rw [← eA235]
        rw [← eA235] at hW236 hF237
        have q238 : A235 20 (n).toNat = r178 := by rw [eA235]; exact uA_eq
        have hP239 : Pf nd A A235 := eA235 ▸ Pf_a hP205 (z := n) (by omega) (by omega)
        have hS240 : Fx sr (sy) A A235 := eA235 ▸ Fx_n hS206 rfl
        have hV241 : Fx [14] (vi) A A235 := eA235 ▸ Fx_n hV207 rfl
        have sf242 : ND A235 (n) (27) (sa1) (0) (ec) (r178) (0) (0) := ND_d eA235 sf208
        have sf243 : wE A235 Vs sb (20) (ec) (n + 1) (nd1) := wE_ag (by omega) (Sg_ne eA235 rfl) (Ag_st eA235 (by omega) (by omega)) sf209
        have sf244 : wE A235 Vs sb (2 * 9 + 2) (r178) (nd1) (nd2_182) := wE_ag (by omega) (Sg_ne eA235 rfl) (Ag_st eA235 (by omega) (by omega)) a222
        have ec245 : ecn A235 (G176 31) = ec2_184 := (ecn_e ((congrFun eA235 15).trans (uA_ne (by decide)))).trans e194
        refine jx_ld (pc' := 127) (l' := L) (st' := [.ref 66]) rfl (jl_aloadn gL_0) ?_
        refine jx_vr (pc' := 130) (as := []) (st := []) rfl rfl rfl rfl ⟨rfl, rfl, Nat.le_of_ble_eq_true rfl⟩ rfl rfl (c_endLine (dd := d) (hd := by omega) (hW := hW236)  (ln := ln) (e_ln := show G176 9 = ln from ((hF186.1 9 rfl).trans ((hF153.1 9 rfl).trans (fx_9)))) (li := li) (e_li := show G176 3 = li from ((hF186.1 3 rfl).trans ((hF153.1 3 rfl).trans ((hFx.1 3 rfl).trans (e_li))))) (fk := fk2_180) (e_fk := show G176 16 = fk2_180 from (e190)) (tk0 := tk2_183) (e_tk0 := show G176 11 = tk2_183 from (e193))    (p_0 := by omega)) (fun o V' hq => ?_)
        obtain ⟨G246, A247, ln2_248, fk2_249, rfl, rfl, hW250, hF251, e252, e253, q254⟩ := hq
        have hF255 := Fr_tr hF237 hF251 (Fr_sub (by decide)) (Fr_sub (by decide))
        have hP256 := Pf_f hP239 hF251 (by decide)
        have hS257 := Fx_f hS240 hF251 (by decide)
        have hV258 := Fx_f hV241 hF251 (by decide)
        have sf259 : ND A247 (n) (27) (sa1) (0) (ec) (r178) (0) (0) := ND_ag (by omega) (Ag_fr hF251 (by decide)) sf242
        have sf260 : wE A247 Vs sb (20) (ec) (n + 1) (nd1) := wE_ag (by omega) (Sg_fr hF251 (by decide)) (Ag_fr hF251 (by decide)) sf243
        have sf261 : wE A247 Vs sb (2 * 9 + 2) (r178) (nd1) (nd2_182) := wE_ag (by omega) (Sg_fr hF251 (by decide)) (Ag_fr hF251 (by decide)) sf244
        have ec262 : ecn A247 (G246 31) = ec2_184 := (ecn_f (hF251.2 15 rfl) (hF251.1 31 rfl)).trans ec245
        have bln2_248 : (0 : Int) ≤ ln2_248 ∧ ln2_248 ≤ 3000 := e252 ▸ hW250.1 9
        have bfk2_249 : (0 : Int) ≤ fk2_249 ∧ fk2_249 ≤ 6 := e253 ▸ hW250.1 16
        refine .inl ⟨rfl, ?_⟩
        rcases q254 with ⟨a263, a264, a265, a266, a267⟩ | ⟨a268, a269⟩
        · have _q : True := trivial
          have b270 : (0 : Int) ≤ A 3 (ln2_248).toNat ∧ A 3 (ln2_248).toNat ≤ 3000 := hW.2 3 _
          have lt271 : ln2_248 < li → le < A 3 (ln2_248).toNat := fun hh => LT_nx (LT_ext (((hF251.1 3 rfl).trans ((hF186.1 3 rfl).trans ((hF153.1 3 rfl).trans (hFx.1 3 rfl))))) (((hF251.2 3 rfl).trans (((congrFun eA235 3).trans (uA_ne (by decide))).trans ((hF186.2 3 rfl).trans ((hF153.2 3 rfl).trans (hFx.2 3 rfl)))))) (((hF251.2 4 rfl).trans (((congrFun eA235 4).trans (uA_ne (by decide))).trans ((hF186.2 4 rfl).trans ((hF153.2 4 rfl).trans (hFx.2 4 rfl)))))) i_LT) (show G246 3 = li from ((hF251.1 3 rfl).trans ((hF186.1 3 rfl).trans ((hF153.1 3 rfl).trans ((hFx.1 3 rfl).trans (e_li)))))) (show A247 4 (ln).toNat = le from (congrFun ((hF251.2 4 rfl).trans (((congrFun eA235 4).trans (uA_ne (by decide))).trans ((hF186.2 4 rfl).trans ((hF153.2 4 rfl).trans (hFx.2 4 rfl))))) _).trans (e_le)) (show A247 3 (ln2_248).toNat = A 3 (ln2_248).toNat from (congrFun ((hF251.2 3 rfl).trans (((congrFun eA235 3).trans (uA_ne (by decide))).trans ((hF186.2 3 rfl).trans ((hF153.2 3 rfl).trans (hFx.2 3 rfl))))) _)) (show ln2_248 = ln + 1 by omega) (by omega) hh
          refine jx_ld (pc' := 131) (l' := L) (st' := [.ref 66]) rfl (jl_aloadn gL_0) ?_
          refine jx_ld (pc' := 132) (l' := L) (st' := [.int (i32 (n)), .ref 66]) rfl (jl_iloadn gL_2) ?_
          refine jx_ld (pc' := 133) (l' := L) (st' := [.int (i32 (lv)), .int (i32 (n)), .ref 66]) rfl (jl_iloadn gL_1) ?_
          refine jx_vr (pc' := 136) (as := [.int (i32 (n)), .int (i32 (lv))]) (st := []) rfl rfl rfl rfl ⟨rfl, rfl, Nat.le_of_ble_eq_true rfl⟩ rfl rfl (c_readIndexed_w (dd := d) (hP := hP) (zz := nd) (hd := by omega) (hW := hW250) (n := n) (lv := lv) (kk := 27) (bb := 0) (cc := ec) (de := r178) (xx := 0) (ln := ln2_248) (e_ln := show G246 9 = ln2_248 from (e252)) (li := li) (e_li := show G246 3 = li from ((hF251.1 3 rfl).trans ((hF186.1 3 rfl).trans ((hF153.1 3 rfl).trans ((hFx.1 3 rfl).trans (e_li)))))) (at0 := at2_179) (e_at0 := show G246 10 = at2_179 from ((hF251.1 10 rfl).trans (e189))) (fk := fk2_249) (e_fk := show G246 16 = fk2_249 from (e253)) (nd := nd2_182) (e_nd := show G246 31 = nd2_182 from ((hF251.1 31 rfl).trans (e192))) (sy := sy1) (e_sy := show G246 19 = sy1 from ((hF251.1 19 rfl).trans ((hF186.1 19 rfl).trans ((hF153.1 19 rfl).trans (ex_sy1))))) (na := na1) (e_na := show G246 28 = na1 from ((hF251.1 28 rfl).trans ((hF186.1 28 rfl).trans ((hF153.1 28 rfl).trans (ex_na1))))) (vi := vi) (e_vi := show G246 29 = vi from ((hF251.1 29 rfl).trans ((hF186.1 29 rfl).trans ((hF153.1 29 rfl).trans (fx_29))))) (lf := A 3 (ln2_248).toNat) (e_lf := show A247 3 (ln2_248).toNat = A 3 (ln2_248).toNat from (congrFun ((hF251.2 3 rfl).trans (((congrFun eA235 3).trans (uA_ne (by decide))).trans ((hF186.2 3 rfl).trans ((hF153.2 3 rfl).trans (hFx.2 3 rfl))))) _)) (sa := sa1) (e_sa := show A247 17 (n).toNat = sa1 from (congrFun ((hF251.2 17 rfl).trans ((congrFun eA235 17).trans (uA_ne (by decide)))) _).trans (k203)) (ksa := ka1) (e_ksa := show A247 7 (sa1).toNat = ka1 from (congrFun ((hF251.2 7 rfl).trans (((congrFun eA235 7).trans (uA_ne (by decide))).trans ((hF186.2 7 rfl).trans (hF153.2 7 rfl)))) _).trans (ex_ka1)) (ec := ec2_184) (e_ec := show ecn A247 (G246 31) = ec2_184 from ec262) (i_LT := (LT_ext (((hF251.1 3 rfl).trans ((hF186.1 3 rfl).trans ((hF153.1 3 rfl).trans (hFx.1 3 rfl))))) (((hF251.2 3 rfl).trans (((congrFun eA235 3).trans (uA_ne (by decide))).trans ((hF186.2 3 rfl).trans ((hF153.2 3 rfl).trans (hFx.2 3 rfl)))))) (((hF251.2 4 rfl).trans (((congrFun eA235 4).trans (uA_ne (by decide))).trans ((hF186.2 4 rfl).trans ((hF153.2 4 rfl).trans (hFx.2 4 rfl)))))) i_LT)) (i_SV := (SV_fx i_SV e_vi (show G246 29 = vi from ((hF251.1 29 rfl).trans ((hF186.1 29 rfl).trans ((hF153.1 29 rfl).trans (fx_29))))) (by omega) hV258)) (i_PQ := (PQ_fx i_PQ hS257 (by omega) (hF255.2 29 rfl) (hF255.2 30 rfl))) (hvb := hvb) (h_n := ⟨(Int.le_trans (by decide : (-2147483648 : Int) ≤ -2147483648) rx_n.1), (Int.le_trans rx_n.2 (by decide : (2147483647 : Int) ≤ 2147483647))⟩) (h_lv := ⟨(Int.le_trans (by decide : (-2147483648 : Int) ≤ -2147483648) h_lv.1), (Int.le_trans h_lv.2 (by decide : (2147483647 : Int) ≤ 2147483647))⟩)  (p_0 := by omega) (p_1 := by omega) (p_2 := by omega) (p_3 := by omega) (p_4 := by omega) (p_5 := by omega) (p_6 := by omega) (p_7 := by omega) (p_8 := by omega) (p_9 := by omega) (p_10 := by omega) (p_11 := by omega) (p_12 := by omega) (p_13 := by omega) (p_14 := by omega) (p_15 := by omega) (p_16 := sf259)) (fun o V' hq => ?_)
          obtain ⟨G272, A273, ln2_274, at2_275, fk2_276, nd2_277, sy2_278, na2_279, vi2_280, lf2_281, f2_282, ec2_283, rfl, rfl, hW284, hF285, hQ286, hQ287, hQ288, hQ289, e290, e291, e292, e293, e294, e295, e296, e297, e298, e299, p300, p301, p302, p303, p304, p305, p306, q307⟩ := hq
          have hF308 := Fr_tr hF255 hF285 (Fr_sub (by decide)) (Fr_sub (by decide))
          have hP309 := Pf_tr hP256 hQ286 (by omega)
          have hS310 := Fx_tr hS257 hQ288 (by omega)
          have hV311 := Fx_tr hV258 hQ289 (by omega)
          have k312 : A273 7 (sa1).toNat = ka1 := (hQ288 7 _ rfl (by omega)).trans (show A247 7 (sa1).toNat = ka1 from (congrFun ((hF251.2 7 rfl).trans (((congrFun eA235 7).trans (uA_ne (by decide))).trans ((hF186.2 7 rfl).trans (hF153.2 7 rfl)))) _).trans (ex_ka1))
          have sf313 : wE A273 Vs sb (20) (ec) (n + 1) (nd1) := wE_ag (by omega) (Fx_su hQ288 (by omega)) (Ag_px hQ287 (by omega) (by omega)) sf260
          have sf314 : wE A273 Vs sb (2 * 9 + 2) (r178) (nd1) (nd2_182) := wE_ag (by omega) (Fx_su hQ288 (by omega)) (Ag_px hQ287 (by omega) (by omega)) sf261
          have bln2_274 : (0 : Int) ≤ ln2_274 ∧ ln2_274 ≤ 3000 := e290 ▸ hW284.1 9
          have bat2_275 : (0 : Int) ≤ at2_275 ∧ at2_275 ≤ 3002 := e291 ▸ hW284.1 10
          have bfk2_276 : (0 : Int) ≤ fk2_276 ∧ fk2_276 ≤ 6 := e292 ▸ hW284.1 16
          have bnd2_277 : (0 : Int) ≤ nd2_277 ∧ nd2_277 ≤ 6999 := e293 ▸ hW284.1 31
          have bsy2_278 : (0 : Int) ≤ sy2_278 ∧ sy2_278 ≤ 202 := e294 ▸ hW284.1 19
          have bna2_279 : (0 : Int) ≤ na2_279 ∧ na2_279 ≤ 200 := e295 ▸ hW284.1 28
          have bvi2_280 : (0 : Int) ≤ vi2_280 ∧ vi2_280 ≤ 202 := e296 ▸ hW284.1 29
          have blf2_281 : (0 : Int) ≤ lf2_281 ∧ lf2_281 ≤ 3000 := e297 ▸ hW284.2 3 _
          have bf2_282 : (-2147483648 : Int) ≤ f2_282 ∧ f2_282 ≤ 2147483647 := e298 ▸ hW284.2 21 _
          refine .inr ⟨_, rfl, ?_⟩
          rcases q307 with ⟨a315, a316⟩ | ⟨a317, a318, a319, a320, a321, a322, a323⟩
          · have _q : True := trivial
            refine jx_rt (v := some (.int (i32 (n)))) rfl rfl rfl rfl rfl rfl ?_
            exact ⟨_, _, _, ln2_274, at2_275, fk2_276, nd2_277, sy2_278, na2_279, vi2_280, lf2_281, ec2_283, rfl, rfl, hW284, hF308, hP309, hS310, hV311, by omega, (e290), (e291), (e292), (e293), (e294), (e295), (e296), (e297), e299, by omega, by omega, by omega, by omega, by omega, by omega, by omega, by omega, by omega, by omega, by first | exact Or.inl (⟨by omega, by omega⟩)⟩
          · have _q : True := trivial
            refine jx_rt (v := some (.int (i32 (n)))) rfl rfl rfl rfl rfl rfl ?_
            exact ⟨_, _, _, ln2_274, at2_275, fk2_276, nd2_277, sy2_278, na2_279, vi2_280, lf2_281, ec2_283, rfl, rfl, hW284, hF308, hP309, hS310, hV311, by omega, (e290), (e291), (e292), (e293), (e294), (e295), (e296), (e297), e299, by omega, by omega, by omega, by omega, by omega, by omega, by omega, by omega, by omega, by omega, by first | exact Or.inr ((⟨by omega, by omega, by omega, by omega, by omega, by omega, by omega, (wS_for (u := nd1) (v := nd2_182) (ND_ae a321 (by omega : sa1 = sy)) (by omega) (by rw [← (by omega : sa1 = sy)]; exact (show A273 7 (sa1).toNat = ka1 from (k312)).trans (by omega)) (by omega) (by omega) (by omega) (wE_sb (by omega) (wE_mono (by omega) (by omega) (by omega) sf313)) (wE_sb (by omega) (wE_mono (by omega) (by omega) (by omega) sf314)) (wP_vu (by omega : sa1 = sy) (wP_eq a322 (by omega) rfl (by omega) (by omega) (by omega) (by omega) (by omega) (by omega)))), (NX_nd a321), by omega, by omega⟩))⟩
        · have _q : True := trivial
          refine jx_ld (pc' := 131) (l' := L) (st' := [.ref 66]) rfl (jl_aloadn gL_0) ?_
          refine jx_ld (pc' := 132) (l' := L) (st' := [.int (i32 (n)), .ref 66]) rfl (jl_iloadn gL_2) ?_
          refine jx_ld (pc' := 133) (l' := L) (st' := [.int (i32 (lv)), .int (i32 (n)), .ref 66]) rfl (jl_iloadn gL_1) ?_
          refine jx_vr (pc' := 136) (as := [.int (i32 (n)), .int (i32 (lv))]) (st := []) rfl rfl rfl rfl ⟨rfl, rfl, Nat.le_of_ble_eq_true rfl⟩ rfl rfl (c_readIndexed_f (dd := d) (hd := by omega) (hW := hW250) (n := n) (lv := lv) (fk := fk2_249) (e_fk := show G246 16 = fk2_249 from (e253))  (h_n := ⟨(Int.le_trans (by decide : (-2147483648 : Int) ≤ -2147483648) rx_n.1), (Int.le_trans rx_n.2 (by decide : (2147483647 : Int) ≤ 2147483647))⟩) (h_lv := ⟨(Int.le_trans (by decide : (-2147483648 : Int) ≤ -2147483648) h_lv.1), (Int.le_trans h_lv.2 (by decide : (2147483647 : Int) ≤ 2147483647))⟩)  (p_0 := by omega)) (fun o V' hq => ?_)
          obtain ⟨r324, rfl, rfl, b325, p326, -⟩ := hq
          refine .inr ⟨_, rfl, ?_⟩
          refine jx_rt (v := some (.int (i32 (r324)))) rfl rfl rfl rfl rfl rfl ?_
          exact ⟨_, _, _, ln2_248, at2_179, fk2_249, nd2_182, sy1, na1, vi, A 3 (ln2_248).toNat, ec2_184, rfl, rfl, hW250, hF255, hP256, hS257, hV258, by omega, (e252), ((hF251.1 10 rfl).trans (e189)), (e253), ((hF251.1 31 rfl).trans (e192)), ((hF251.1 19 rfl).trans ((hF186.1 19 rfl).trans ((hF153.1 19 rfl).trans (ex_sy1)))), ((hF251.1 28 rfl).trans ((hF186.1 28 rfl).trans ((hF153.1 28 rfl).trans (ex_na1)))), ((hF251.1 29 rfl).trans ((hF186.1 29 rfl).trans ((hF153.1 29 rfl).trans (fx_29)))), (congrFun ((hF251.2 3 rfl).trans (((congrFun eA235 3).trans (uA_ne (by decide))).trans ((hF186.2 3 rfl).trans ((hF153.2 3 rfl).trans (hFx.2 3 rfl))))) _), ec262, by omega, by omega, by omega, by omega, by omega, by omega, by omega, by omega, by omega, by omega, by first | exact Or.inl (⟨by omega, by omega⟩)⟩
  · have _q : True := trivial
    refine jx_vr (pc' := 116) (as := [.int (i32 (0))]) (st := []) rfl rfl rfl rfl ⟨rfl, rfl, Nat.le_of_ble_eq_true rfl⟩ rfl rfl (c_need (dd := d) (hd := by omega) (hW := hWx) (g := 0) (ln := ln) (e_ln := show Gx 9 = ln from (fx_9)) (le := le) (e_le := show Ax 4 (ln).toNat = le from (congrFun (hFx.2 4 rfl) _).trans (e_le)) (at0 := at1) (e_at0 := show Gx 10 = at1 from (ex_at1)) (fk := fk1) (e_fk := show Gx 16 = fk1 from (ex_fk1)) (tk0 := tk1) (e_tk0 := show Gx 11 = tk1 from (ex_tk1))  (h_g := ⟨(by decide), (by decide)⟩)  (p_0 := by omega)) (fun o V' hq => ?_)
    obtain ⟨G328, A329, at2_330, tk2_331, fk2_332, rfl, rfl, hW333, hF334, e335, e336, e337, p338, p339, q340⟩ := hq
    have hF341 := Fr_tr hFx hF334 (Fr_sub (by decide)) (Fr_sub (by decide))
    have hP342 := Pf_f hPx hF334 (by decide)
    have hS343 := Fx_f hSx hF334 (by decide)
    have hV344 := Fx_f hVx hF334 (by decide)
    have sf345 : ND A329 (n) (27) (sa1) (0) (ec) (0) (0) (0) := ND_ag (by omega) (Ag_fr hF334 (by decide)) iv_11
    have sf346 : wE A329 Vs sb (20) (ec) (n + 1) (nd1) := wE_ag (by omega) (Sg_fr hF334 (by decide)) (Ag_fr hF334 (by decide)) iv_12
    have ec347 : ecn A329 (G328 31) = ec1 := (ecn_f (hF334.2 15 rfl) (hF334.1 31 rfl)).trans ex_ec1
    have bat2_330 : (0 : Int) ≤ at2_330 ∧ at2_330 ≤ 3002 := e335 ▸ hW333.1 10
    have ztk2_331 := tz_b tk2_331
    have btk2_331 : (0 : Int) ≤ tk2_331 ∧ tk2_331 ≤ 5 := e336 ▸ hW333.1 11
    have bfk2_332 : (0 : Int) ≤ fk2_332 ∧ fk2_332 ≤ 6 := e337 ▸ hW333.1 16
    refine .inl ⟨rfl, ?_⟩
    rcases q340 with ⟨a348, a349, a350, a351⟩ | ⟨a352, a353, a354, a355⟩
    · have _q : True := trivial
      have z356 := tz_f (tk2_331)
      exact c_readSeq_w_at_116p (X := X) (k := k) (hP := hP) (d := d) (Vs := Vs) (sb := sb) (pb := pb) (hvb := hvb) (c0 := c0) (c1 := c1) (G := G) (A := A) (T := T) (lv := lv) (ln := ln) (li := li) (at0 := at0) (fk := fk) (nd := nd) (sy := sy) (na := na) (vi := vi) (le := le) (op0 := op0) (tk0 := tk0) (ec := ec) (hd := hd) (hW := hW) (e_ln := e_ln) (e_li := e_li) (e_at0 := e_at0) (e_fk := e_fk) (e_nd := e_nd) (e_sy := e_sy) (e_na := e_na) (e_vi := e_vi) (e_le := e_le) (e_op0 := e_op0) (e_tk0 := e_tk0) (e_ec := e_ec) (i_LT := i_LT) (i_SV := i_SV) (i_PQ := i_PQ) (h_lv := h_lv) (p_0 := p_0) (p_1 := p_1) (p_2 := p_2) (p_3 := p_3) (p_4 := p_4) (p_5 := p_5) (p_6 := p_6) (p_7 := p_7) (p_8 := p_8) (p_9 := p_9) (p_10 := p_10) L G328 A329 (n) (at2_330) (tk2_331) (fk2_332) (nd1) (op1) (sy1) (na1) (ec1) gL_0 gL_1 gL_2 hW333 hF341 hP342 hS343 hV344 ((e335)) ((e336)) ((e337)) (((hF334.1 31 rfl).trans (ex_nd1))) (((hF334.1 15 rfl).trans (ex_op1))) (((hF334.1 19 rfl).trans (ex_sy1))) (((hF334.1 28 rfl).trans (ex_na1))) (ec347) (((hF334.1 9 rfl).trans (fx_9))) (((hF334.1 29 rfl).trans (fx_29))) (by omega) (by omega) (by omega) (by omega) (by omega) (by omega) (by omega) (by omega) (by omega)
    · have _q : True := trivial
      exfalso
      omega
set_option maxRecDepth 20000 in
set_option maxHeartbeats 4000000 in
theorem c_readSeq_w_at_96p {X : jX} {k : Nat} (hP : RPw X k) {d : Nat} {Vs : Nat → Prop} {sb pb : Int} (hvb : VB Vs sb) {c0 c1 : jC} {G : Nat → Int} {A : Nat → Nat → Int} {T : jH} {lv : Int} {ln li at0 fk nd sy na vi le op0 tk0 ec : Int} (hd : 8 * k + 82 ≤ d + 1) (hW : Wk G A) (e_ln : G 9 = ln) (e_li : G 3 = li) (e_at0 : G 10 = at0) (e_fk : G 16 = fk) (e_nd : G 31 = nd) (e_sy : G 19 = sy) (e_na : G 28 = na) (e_vi : G 29 = vi) (e_le : A 4 (ln).toNat = le) (e_op0 : G 15 = op0) (e_tk0 : G 11 = tk0) (e_ec : ecn A (G 31) = ec) (i_LT : LT G A) (i_SV : SV Vs sb G A) (i_PQ : PQ Vs sb pb G A) (h_lv : (-2147483648 : Int) ≤ lv ∧ lv ≤ 2147483647) (p_0 : 0 ≤ lv ∧ lv ≤ 15) (p_1 : 18 - lv ≤ ((k + 1 : Nat) : Int)) (p_2 : fk = 0) (p_3 : ln < li) (p_4 : at0 ≤ le) (p_5 : op0 = 0) (p_6 : nd ≤ 2 * at0 - tz tk0 + 30) (p_7 : sy ≤ na + 2) (p_8 : vi ≤ sy) (p_9 : sb = sy) (p_10 : 1 ≤ tk0) : ∀ (L : jL) (Gx : Nat → Int) (Ax : Nat → Nat → Int) (n at1 tk1 fk1 nd1 op1 sy1 na1 ec1 : Int), jGet L 0 = some (.ref 66) → jGet L 1 = some (.int (i32 (lv))) → jGet L 2 = some (.int (i32 n)) → Wk Gx Ax → Fr [9, 10, 11, 12, 13, 14, 15, 16, 17, 18, 19, 28, 29, 31] [6, 7, 8, 9, 10, 11, 12, 14, 15, 16, 17, 18, 19, 20, 21, 22, 23, 24, 28] G A Gx Ax → Pf nd A Ax → Fx sr (sy) A Ax → Fx [14] (vi) A Ax → Gx 10 = at1 → Gx 11 = tk1 → Gx 16 = fk1 → Gx 31 = nd1 → Gx 15 = op1 → Gx 19 = sy1 → Gx 28 = na1 → ecn Ax (Gx 31) = ec1 → Gx 9 = ln → Gx 29 = vi → ((-2147483648 : Int) ≤ n ∧ n ≤ 2147483647) → (1 ≤ fk1) → (at0 ≤ at1) → (at1 ≤ le) → (nd ≤ n ∧ n ≤ 6998 ∧ n < nd1) → (sy ≤ sy1) → (sy1 ≤ na1 + 2) → (0 ≤ op1 ∧ op1 ≤ 9) → (nd1 - nd ≤ 2 * at1 - 2 * at0 + 8) → wj X d jm297 (96, L, [], rV c0 c1 Gx Ax T) (fun o V' => ∃ (G' : Nat → Int) (A' : Nat → Nat → Int) (r : Int) (ln2 : Int) (at2 : Int) (fk2 : Int) (nd2 : Int) (sy2 : Int) (na2 : Int) (vi2 : Int) (lf2 : Int) (ec2 : Int), V' = rV c0 c1 G' A' T ∧ o = .inl (some (.int (i32 r))) ∧ Wk G' A' ∧ Fr [9, 10, 11, 12, 13, 14, 15, 16, 17, 18, 19, 28, 29, 31] [6, 7, 8, 9, 10, 11, 12, 14, 15, 16, 17, 18, 19, 20, 21, 22, 23, 24, 28] G A G' A' ∧ Pf nd A A' ∧ Fx sr (sy) A A' ∧ Fx [14] (vi) A A' ∧ ((-2147483648 : Int) ≤ r ∧ r ≤ 2147483647) ∧ G' 9 = ln2 ∧ G' 10 = at2 ∧ G' 16 = fk2 ∧ G' 31 = nd2 ∧ G' 19 = sy2 ∧ G' 28 = na2 ∧ G' 29 = vi2 ∧ A' 3 (ln2).toNat = lf2 ∧ ecn A' (G' 31) = ec2 ∧ (at0 ≤ at2) ∧ (nd ≤ nd2) ∧ (sy ≤ sy2) ∧ (sy2 ≤ na2 + 2) ∧ (vi ≤ vi2) ∧ (vi2 ≤ vi + 1) ∧ (0 ≤ r) ∧ (r ≤ 6999) ∧ (ln ≤ ln2) ∧ (ln2 ≤ li) ∧ (((1 ≤ fk2) ∧ (nd2 - nd ≤ 2 * at2 - (2 * at0 - tz tk0) + 14)) ∨ ((fk2 = 0) ∧ (vi2 = vi) ∧ (ln < ln2) ∧ (nd2 - nd ≤ 2 * at2 - (2 * at0 - tz tk0)) ∧ (at2 < lf2 ∨ li ≤ ln2) ∧ (nd ≤ r) ∧ (r < nd2) ∧ (wSt A' (sy2) pb (wP A' (sy2) pb (k)) (Vs) (r) (nd) (nd2) (sy) (sy2)) ∧ (NX A' (r)) ∧ (nd2 - nd + 5 * (ec2 - ec) ≤ 2 * at2 - (2 * at0 - tz tk0)) ∧ (nd + 5 * ec ≤ r)))) := by
  have hF0 : Fr [9, 10, 11, 12, 13, 14, 15, 16, 17, 18, 19, 28, 29, 31] [6, 7, 8, 9, 10, 11, 12, 14, 15, 16, 17, 18, 19, 20, 21, 22, 23, 24, 28] G A G A := Fr_rf
  have hP0 : Pf nd A A := Pf_rf
  have hS0 : Fx sr (sy) A A := Fx_rf
  have hV0 : Fx [14] (vi) A A := Fx_rf
  have b_ln : (0 : Int) ≤ ln ∧ ln ≤ 3000 := e_ln ▸ hW.1 9
  have b_li : (0 : Int) ≤ li ∧ li ≤ 3000 := e_li ▸ hW.1 3
  have b_at0 : (0 : Int) ≤ at0 ∧ at0 ≤ 3002 := e_at0 ▸ hW.1 10
  have b_fk : (0 : Int) ≤ fk ∧ fk ≤ 6 := e_fk ▸ hW.1 16
  have b_nd : (0 : Int) ≤ nd ∧ nd ≤ 6999 := e_nd ▸ hW.1 31
  have b_sy : (0 : Int) ≤ sy ∧ sy ≤ 202 := e_sy ▸ hW.1 19
  have b_na : (0 : Int) ≤ na ∧ na ≤ 200 := e_na ▸ hW.1 28
  have b_vi : (0 : Int) ≤ vi ∧ vi ≤ 202 := e_vi ▸ hW.1 29
  have b_le : (0 : Int) ≤ le ∧ le ≤ 3000 := e_le ▸ hW.2 4 _
  have b_op0 : (-2147483648 : Int) ≤ op0 ∧ op0 ≤ 2147483647 := e_op0 ▸ hW.1 15
  have z_tk0 := tz_f tk0
  have b_tk0 : (0 : Int) ≤ tk0 ∧ tk0 ≤ 5 := e_tk0 ▸ hW.1 11
  intro L Gx Ax n at1 tk1 fk1 nd1 op1 sy1 na1 ec1 gL_0 gL_1 gL_2 hWx hFx hPx hSx hVx ex_at1 ex_tk1 ex_fk1 ex_nd1 ex_op1 ex_sy1 ex_na1 ex_ec1 fx_9 fx_29 rx_n iv_0 iv_1 iv_2 iv_3 iv_4 iv_5 iv_6 iv_7
  have b_at1 : (0 : Int) ≤ at1 ∧ at1 ≤ 3002 := ex_at1 ▸ hWx.1 10
  have z_tk1 := tz_f tk1
  have b_tk1 : (0 : Int) ≤ tk1 ∧ tk1 ≤ 5 := ex_tk1 ▸ hWx.1 11
  have b_fk1 : (0 : Int) ≤ fk1 ∧ fk1 ≤ 6 := ex_fk1 ▸ hWx.1 16
  have b_nd1 : (0 : Int) ≤ nd1 ∧ nd1 ≤ 6999 := ex_nd1 ▸ hWx.1 31
  have b_op1 : (-2147483648 : Int) ≤ op1 ∧ op1 ≤ 2147483647 := ex_op1 ▸ hWx.1 15
  have b_sy1 : (0 : Int) ≤ sy1 ∧ sy1 ≤ 202 := ex_sy1 ▸ hWx.1 19
  have b_na1 : (0 : Int) ≤ na1 ∧ na1 ≤ 200 := ex_na1 ▸ hWx.1 28
  refine jx_ld (pc' := 97) (l' := L) (st' := [.ref 66]) rfl (jl_aloadn gL_0) ?_
  refine jr_get (pc' := 100) (i := 36) (v := .ref 86) rfl rfl (by decide) rfl rfl ?_
  refine jx_ld (pc' := 101) (l' := L) (st' := [.int (i32 (n)), .ref 86]) rfl (jl_iloadn gL_2) ?_
  refine jx_ld (pc' := 102) (l' := L) (st' := [.ref 66, .int (i32 (n)), .ref 86]) rfl (jl_aloadn gL_0) ?_
  refine jx_vr (pc' := 105) (as := []) (st := [.int (i32 (n)), .ref 86]) rfl rfl rfl rfl ⟨rfl, rfl, Nat.le_of_ble_eq_true rfl⟩ rfl rfl (RE_all X 9 (dd := d) (hd := by omega) (hW := hWx)  (ln := ln) (e_ln := show Gx 9 = ln from (fx_9)) (le := le) (e_le := show Ax 4 (ln).toNat = le from (congrFun (hFx.2 4 rfl) _).trans (e_le)) (at0 := at1) (e_at0 := show Gx 10 = at1 from (ex_at1)) (fk := fk1) (e_fk := show Gx 16 = fk1 from (ex_fk1)) (op0 := op1) (e_op0 := show Gx 15 = op1 from (ex_op1)) (nd := nd1) (e_nd := show Gx 31 = nd1 from (ex_nd1)) (tk0 := tk1) (e_tk0 := show Gx 11 = tk1 from (ex_tk1)) (ec := ec1) (e_ec := show ecn Ax (Gx 31) = ec1 from ex_ec1) (i_SV := (SV_fx i_SV e_vi (show Gx 29 = vi from (fx_29)) (by omega) hVx))   (p_0 := by omega) (p_1 := by omega) (p_2 := by omega) (p_3 := by omega) (p_4 := by omega) (p_5 := by omega)) (fun o V' hq => ?_)
  obtain ⟨G357, A358, r359, at2_360, fk2_361, op2_362, nd2_363, tk2_364, ec2_365, rfl, rfl, hW366, hF367, hQ368, b369, e370, e371, e372, e373, e374, e375, p376, p377, p378, p379, p380, p381, q382⟩ := hq
  have hF383 := Fr_tr hFx hF367 (Fr_sub (by decide)) (Fr_sub (by decide))
  have hP384 := Pf_tr hPx hQ368 (by omega)
  have hS385 := Fx_f hSx hF367 (by decide)
  have hV386 := Fx_f hVx hF367 (by decide)
  have bat2_360 : (0 : Int) ≤ at2_360 ∧ at2_360 ≤ 3002 := e370 ▸ hW366.1 10
  have bfk2_361 : (0 : Int) ≤ fk2_361 ∧ fk2_361 ≤ 6 := e371 ▸ hW366.1 16
  have bop2_362 : (-2147483648 : Int) ≤ op2_362 ∧ op2_362 ≤ 2147483647 := e372 ▸ hW366.1 15
  have bnd2_363 : (0 : Int) ≤ nd2_363 ∧ nd2_363 ≤ 6999 := e373 ▸ hW366.1 31
  have ztk2_364 := tz_b tk2_364
  have btk2_364 : (0 : Int) ≤ tk2_364 ∧ tk2_364 ≤ 5 := e374 ▸ hW366.1 11
  refine .inr ⟨_, rfl, ?_⟩
  rcases q382 with ⟨a387, a388, a389, a390, a391, a392⟩ | ⟨a393, a394, a395⟩ | ⟨a396, a397, a398, a399, a400⟩
  · have _q : True := trivial
    refine jr_st (pc' := 106) (i := 19) (m := 7000) (z := n) (y := r359) rfl (by decide) rfl (by decide) (by omega) (by omega) rfl ?_
    have hW402 : Wk G357 (uA A358 19 (n).toNat (r359)) := Wk_a hW366 (show (-2147483648 : Int) ≤ r359 by omega) (show r359 ≤ (2147483647 : Int) by omega)
    have hF403 := Fr_a (z := r359) (k := 19) (n := (n).toNat) hF383 (by decide)
    obtain ⟨A401, eA401⟩ : ∃ q, q = uA A358 19 (n).toNat (r359) := ⟨_, rfl⟩
    rw [← eA401]
    rw [← eA401] at hW402 hF403
    have q404 : A401 19 (n).toNat = r359 := by rw [eA401]; exact uA_eq
    have hP405 : Pf nd A A401 := eA401 ▸ Pf_a hP384 (z := n) (by omega) (by omega)
    have hS406 : Fx sr (sy) A A401 := eA401 ▸ Fx_n hS385 rfl
    have hV407 : Fx [14] (vi) A A401 := eA401 ▸ Fx_n hV386 rfl
    have ec408 : ecn A401 (G357 31) = ec2_365 := (ecn_e ((congrFun eA401 15).trans (uA_ne (by decide)))).trans e375
    have z409 := tz_f (tk2_364)
    exact c_readSeq_w_at_106p (X := X) (k := k) (hP := hP) (d := d) (Vs := Vs) (sb := sb) (pb := pb) (hvb := hvb) (c0 := c0) (c1 := c1) (G := G) (A := A) (T := T) (lv := lv) (ln := ln) (li := li) (at0 := at0) (fk := fk) (nd := nd) (sy := sy) (na := na) (vi := vi) (le := le) (op0 := op0) (tk0 := tk0) (ec := ec) (hd := hd) (hW := hW) (e_ln := e_ln) (e_li := e_li) (e_at0 := e_at0) (e_fk := e_fk) (e_nd := e_nd) (e_sy := e_sy) (e_na := e_na) (e_vi := e_vi) (e_le := e_le) (e_op0 := e_op0) (e_tk0 := e_tk0) (e_ec := e_ec) (i_LT := i_LT) (i_SV := i_SV) (i_PQ := i_PQ) (h_lv := h_lv) (p_0 := p_0) (p_1 := p_1) (p_2 := p_2) (p_3 := p_3) (p_4 := p_4) (p_5 := p_5) (p_6 := p_6) (p_7 := p_7) (p_8 := p_8) (p_9 := p_9) (p_10 := p_10) L G357 A401 (n) (at2_360) (tk2_364) (fk2_361) (nd2_363) (op2_362) (sy1) (na1) (ec2_365) gL_0 gL_1 gL_2 hW402 hF403 hP405 hS406 hV407 ((e370)) ((e374)) ((e371)) ((e373)) ((e372)) (((hF367.1 19 rfl).trans (ex_sy1))) (((hF367.1 28 rfl).trans (ex_na1))) (ec408) (((hF367.1 9 rfl).trans (fx_9))) (((hF367.1 29 rfl).trans (fx_29))) (by omega) (by omega) (by omega) (by omega) (by omega) (by omega) (by omega) (by omega) (by omega)
  · have _q : True := trivial
    exfalso
    omega
  · have _q : True := trivial
    exfalso
    omega
set_option maxRecDepth 20000 in
set_option maxHeartbeats 4000000 in
theorem c_readSeq_w_at_96 {X : jX} {k : Nat} (hP : RPw X k) {d : Nat} {Vs : Nat → Prop} {sb pb : Int} (hvb : VB Vs sb) {c0 c1 : jC} {G : Nat → Int} {A : Nat → Nat → Int} {T : jH} {lv : Int} {ln li at0 fk nd sy na vi le op0 tk0 ec : Int} (hd : 8 * k + 82 ≤ d + 1) (hW : Wk G A) (e_ln : G 9 = ln) (e_li : G 3 = li) (e_at0 : G 10 = at0) (e_fk : G 16 = fk) (e_nd : G 31 = nd) (e_sy : G 19 = sy) (e_na : G 28 = na) (e_vi : G 29 = vi) (e_le : A 4 (ln).toNat = le) (e_op0 : G 15 = op0) (e_tk0 : G 11 = tk0) (e_ec : ecn A (G 31) = ec) (i_LT : LT G A) (i_SV : SV Vs sb G A) (i_PQ : PQ Vs sb pb G A) (h_lv : (-2147483648 : Int) ≤ lv ∧ lv ≤ 2147483647) (p_0 : 0 ≤ lv ∧ lv ≤ 15) (p_1 : 18 - lv ≤ ((k + 1 : Nat) : Int)) (p_2 : fk = 0) (p_3 : ln < li) (p_4 : at0 ≤ le) (p_5 : op0 = 0) (p_6 : nd ≤ 2 * at0 - tz tk0 + 30) (p_7 : sy ≤ na + 2) (p_8 : vi ≤ sy) (p_9 : sb = sy) (p_10 : 1 ≤ tk0) : ∀ (L : jL) (Gx : Nat → Int) (Ax : Nat → Nat → Int) (n at1 tk1 fk1 nd1 op1 sy1 na1 sa1 ka1 ec1 : Int), jGet L 0 = some (.ref 66) → jGet L 1 = some (.int (i32 (lv))) → jGet L 2 = some (.int (i32 n)) → Wk Gx Ax → Fr [9, 10, 11, 12, 13, 14, 15, 16, 17, 18, 19, 28, 29, 31] [6, 7, 8, 9, 10, 11, 12, 14, 15, 16, 17, 18, 19, 20, 21, 22, 23, 24, 28] G A Gx Ax → Pf nd A Ax → Fx sr (sy) A Ax → Fx [14] (vi) A Ax → Gx 10 = at1 → Gx 11 = tk1 → Gx 16 = fk1 → Gx 31 = nd1 → Gx 15 = op1 → Gx 19 = sy1 → Gx 28 = na1 → Ax 17 (n).toNat = sa1 → Ax 7 (sa1).toNat = ka1 → ecn Ax (Gx 31) = ec1 → Gx 9 = ln → Gx 29 = vi → ((-2147483648 : Int) ≤ n ∧ n ≤ 2147483647) → (fk1 = 0) → (at0 ≤ at1) → (at1 ≤ le) → (n = nd) → (n ≤ 6998 ∧ n < nd1) → (sy1 = sy + 1) → (sa1 = sy) → (sy1 ≤ na1 + 2) → (op1 = 0) → (nd1 - nd ≤ (2 * at1 - tz tk1) - (2 * at0 - tz tk0)) → (ka1 = 9) → (nd1 = n + 1) → (ND Ax (n) (27) (sa1) (0) (0) (0) (0) (0)) → (nd1 - nd + 5 * (ec1 - ec) ≤ (2 * at1 - tz tk1) - (2 * at0 - tz tk0)) → wj X d jm297 (96, L, [], rV c0 c1 Gx Ax T) (fun o V' => ∃ (G' : Nat → Int) (A' : Nat → Nat → Int) (r : Int) (ln2 : Int) (at2 : Int) (fk2 : Int) (nd2 : Int) (sy2 : Int) (na2 : Int) (vi2 : Int) (lf2 : Int) (ec2 : Int), V' = rV c0 c1 G' A' T ∧ o = .inl (some (.int (i32 r))) ∧ Wk G' A' ∧ Fr [9, 10, 11, 12, 13, 14, 15, 16, 17, 18, 19, 28, 29, 31] [6, 7, 8, 9, 10, 11, 12, 14, 15, 16, 17, 18, 19, 20, 21, 22, 23, 24, 28] G A G' A' ∧ Pf nd A A' ∧ Fx sr (sy) A A' ∧ Fx [14] (vi) A A' ∧ ((-2147483648 : Int) ≤ r ∧ r ≤ 2147483647) ∧ G' 9 = ln2 ∧ G' 10 = at2 ∧ G' 16 = fk2 ∧ G' 31 = nd2 ∧ G' 19 = sy2 ∧ G' 28 = na2 ∧ G' 29 = vi2 ∧ A' 3 (ln2).toNat = lf2 ∧ ecn A' (G' 31) = ec2 ∧ (at0 ≤ at2) ∧ (nd ≤ nd2) ∧ (sy ≤ sy2) ∧ (sy2 ≤ na2 + 2) ∧ (vi ≤ vi2) ∧ (vi2 ≤ vi + 1) ∧ (0 ≤ r) ∧ (r ≤ 6999) ∧ (ln ≤ ln2) ∧ (ln2 ≤ li) ∧ (((1 ≤ fk2) ∧ (nd2 - nd ≤ 2 * at2 - (2 * at0 - tz tk0) + 14)) ∨ ((fk2 = 0) ∧ (vi2 = vi) ∧ (ln < ln2) ∧ (nd2 - nd ≤ 2 * at2 - (2 * at0 - tz tk0)) ∧ (at2 < lf2 ∨ li ≤ ln2) ∧ (nd ≤ r) ∧ (r < nd2) ∧ (wSt A' (sy2) pb (wP A' (sy2) pb (k)) (Vs) (r) (nd) (nd2) (sy) (sy2)) ∧ (NX A' (r)) ∧ (nd2 - nd + 5 * (ec2 - ec) ≤ 2 * at2 - (2 * at0 - tz tk0)) ∧ (nd + 5 * ec ≤ r)))) := by
  have hF0 : Fr [9, 10, 11, 12, 13, 14, 15, 16, 17, 18, 19, 28, 29, 31] [6, 7, 8, 9, 10, 11, 12, 14, 15, 16, 17, 18, 19, 20, 21, 22, 23, 24, 28] G A G A := Fr_rf
  have hP0 : Pf nd A A := Pf_rf
  have hS0 : Fx sr (sy) A A := Fx_rf
  have hV0 : Fx [14] (vi) A A := Fx_rf
  have b_ln : (0 : Int) ≤ ln ∧ ln ≤ 3000 := e_ln ▸ hW.1 9
  have b_li : (0 : Int) ≤ li ∧ li ≤ 3000 := e_li ▸ hW.1 3
  have b_at0 : (0 : Int) ≤ at0 ∧ at0 ≤ 3002 := e_at0 ▸ hW.1 10
  have b_fk : (0 : Int) ≤ fk ∧ fk ≤ 6 := e_fk ▸ hW.1 16
  have b_nd : (0 : Int) ≤ nd ∧ nd ≤ 6999 := e_nd ▸ hW.1 31
  have b_sy : (0 : Int) ≤ sy ∧ sy ≤ 202 := e_sy ▸ hW.1 19
  have b_na : (0 : Int) ≤ na ∧ na ≤ 200 := e_na ▸ hW.1 28
  have b_vi : (0 : Int) ≤ vi ∧ vi ≤ 202 := e_vi ▸ hW.1 29
  have b_le : (0 : Int) ≤ le ∧ le ≤ 3000 := e_le ▸ hW.2 4 _
  have b_op0 : (-2147483648 : Int) ≤ op0 ∧ op0 ≤ 2147483647 := e_op0 ▸ hW.1 15
  have z_tk0 := tz_f tk0
  have b_tk0 : (0 : Int) ≤ tk0 ∧ tk0 ≤ 5 := e_tk0 ▸ hW.1 11
  intro L Gx Ax n at1 tk1 fk1 nd1 op1 sy1 na1 sa1 ka1 ec1 gL_0 gL_1 gL_2 hWx hFx hPx hSx hVx ex_at1 ex_tk1 ex_fk1 ex_nd1 ex_op1 ex_sy1 ex_na1 ex_sa1 ex_ka1 ex_ec1 fx_9 fx_29 rx_n iv_0 iv_1 iv_2 iv_3 iv_4 iv_5 iv_6 iv_7 iv_8 iv_9 iv_10 iv_11 iv_12 iv_13
  have b_at1 : (0 : Int) ≤ at1 ∧ at1 ≤ 3002 := ex_at1 ▸ hWx.1 10
  have z_tk1 := tz_f tk1
  have b_tk1 : (0 : Int) ≤ tk1 ∧ tk1 ≤ 5 := ex_tk1 ▸ hWx.1 11
  have b_fk1 : (0 : Int) ≤ fk1 ∧ fk1 ≤ 6 := ex_fk1 ▸ hWx.1 16
  have b_nd1 : (0 : Int) ≤ nd1 ∧ nd1 ≤ 6999 := ex_nd1 ▸ hWx.1 31
  have b_op1 : (-2147483648 : Int) ≤ op1 ∧ op1 ≤ 2147483647 := ex_op1 ▸ hWx.1 15
  have b_sy1 : (0 : Int) ≤ sy1 ∧ sy1 ≤ 202 := ex_sy1 ▸ hWx.1 19
  have b_na1 : (0 : Int) ≤ na1 ∧ na1 ≤ 200 := ex_na1 ▸ hWx.1 28
  refine jx_ld (pc' := 97) (l' := L) (st' := [.ref 66]) rfl (jl_aloadn gL_0) ?_
  refine jr_get (pc' := 100) (i := 36) (v := .ref 86) rfl rfl (by decide) rfl rfl ?_
  refine jx_ld (pc' := 101) (l' := L) (st' := [.int (i32 (n)), .ref 86]) rfl (jl_iloadn gL_2) ?_
  refine jx_ld (pc' := 102) (l' := L) (st' := [.ref 66, .int (i32 (n)), .ref 86]) rfl (jl_aloadn gL_0) ?_
  refine jx_vr (pc' := 105) (as := []) (st := [.int (i32 (n)), .ref 86]) rfl rfl rfl rfl ⟨rfl, rfl, Nat.le_of_ble_eq_true rfl⟩ rfl rfl (RE_all X 9 (dd := d) (hd := by omega) (hW := hWx)  (ln := ln) (e_ln := show Gx 9 = ln from (fx_9)) (le := le) (e_le := show Ax 4 (ln).toNat = le from (congrFun (hFx.2 4 rfl) _).trans (e_le)) (at0 := at1) (e_at0 := show Gx 10 = at1 from (ex_at1)) (fk := fk1) (e_fk := show Gx 16 = fk1 from (ex_fk1)) (op0 := op1) (e_op0 := show Gx 15 = op1 from (ex_op1)) (nd := nd1) (e_nd := show Gx 31 = nd1 from (ex_nd1)) (tk0 := tk1) (e_tk0 := show Gx 11 = tk1 from (ex_tk1)) (ec := ec1) (e_ec := show ecn Ax (Gx 31) = ec1 from ex_ec1) (i_SV := (SV_fx i_SV e_vi (show Gx 29 = vi from (fx_29)) (by omega) hVx))   (p_0 := by omega) (p_1 := by omega) (p_2 := by omega) (p_3 := by omega) (p_4 := by omega) (p_5 := by omega)) (fun o V' hq => ?_)
  obtain ⟨G410, A411, r412, at2_413, fk2_414, op2_415, nd2_416, tk2_417, ec2_418, rfl, rfl, hW419, hF420, hQ421, b422, e423, e424, e425, e426, e427, e428, p429, p430, p431, p432, p433, p434, q435⟩ := hq
  have hF436 := Fr_tr hFx hF420 (Fr_sub (by decide)) (Fr_sub (by decide))
  have k437 : A411 17 (n).toNat = sa1 := (hQ421 17 _ rfl (by omega)).trans (show Ax 17 (n).toNat = sa1 from (ex_sa1))
  have hP438 := Pf_tr hPx hQ421 (by omega)
  have hS439 := Fx_f hSx hF420 (by decide)
  have hV440 := Fx_f hVx hF420 (by decide)
  have sf441 : ND A411 (n) (27) (sa1) (0) (0) (0) (0) (0) := ND_ag (by omega) (Ag_pf hQ421 (by omega)) iv_12
  have bat2_413 : (0 : Int) ≤ at2_413 ∧ at2_413 ≤ 3002 := e423 ▸ hW419.1 10
  have bfk2_414 : (0 : Int) ≤ fk2_414 ∧ fk2_414 ≤ 6 := e424 ▸ hW419.1 16
  have bop2_415 : (-2147483648 : Int) ≤ op2_415 ∧ op2_415 ≤ 2147483647 := e425 ▸ hW419.1 15
  have bnd2_416 : (0 : Int) ≤ nd2_416 ∧ nd2_416 ≤ 6999 := e426 ▸ hW419.1 31
  have ztk2_417 := tz_b tk2_417
  have btk2_417 : (0 : Int) ≤ tk2_417 ∧ tk2_417 ≤ 5 := e427 ▸ hW419.1 11
  refine .inr ⟨_, rfl, ?_⟩
  rcases q435 with ⟨a442, a443, a444, a445, a446, a447⟩ | ⟨a448, a449, a450⟩ | ⟨a451, a452, a453, a454, a455⟩
  · have _q : True := trivial
    exfalso
    omega
  · have _q : True := trivial
    refine jr_st (pc' := 106) (i := 19) (m := 7000) (z := n) (y := r412) rfl (by decide) rfl (by decide) (by omega) (by omega) rfl ?_
    have hW457 : Wk G410 (uA A411 19 (n).toNat (r412)) := Wk_a hW419 (show (-2147483648 : Int) ≤ r412 by omega) (show r412 ≤ (2147483647 : Int) by omega)
    have hF458 := Fr_a (z := r412) (k := 19) (n := (n).toNat) hF436 (by decide)
    obtain ⟨A456, eA456⟩ : ∃ q, q = uA A411 19 (n).toNat (r412) := ⟨_, rfl⟩
    rw [← eA456]
    rw [← eA456] at hW457 hF458
    have q459 : A456 19 (n).toNat = r412 := by rw [eA456]; exact uA_eq
    have hP460 : Pf nd A A456 := eA456 ▸ Pf_a hP438 (z := n) (by omega) (by omega)
    have hS461 : Fx sr (sy) A A456 := eA456 ▸ Fx_n hS439 rfl
    have hV462 : Fx [14] (vi) A A456 := eA456 ▸ Fx_n hV440 rfl
    have sf463 : ND A456 (n) (27) (sa1) (0) (r412) (0) (0) (0) := ND_c eA456 sf441
    have ec464 : ecn A456 (G410 31) = ec2_418 := (ecn_e ((congrFun eA456 15).trans (uA_ne (by decide)))).trans e428
    have z465 := tz_f (tk2_417)
    exact c_readSeq_w_at_106p (X := X) (k := k) (hP := hP) (d := d) (Vs := Vs) (sb := sb) (pb := pb) (hvb := hvb) (c0 := c0) (c1 := c1) (G := G) (A := A) (T := T) (lv := lv) (ln := ln) (li := li) (at0 := at0) (fk := fk) (nd := nd) (sy := sy) (na := na) (vi := vi) (le := le) (op0 := op0) (tk0 := tk0) (ec := ec) (hd := hd) (hW := hW) (e_ln := e_ln) (e_li := e_li) (e_at0 := e_at0) (e_fk := e_fk) (e_nd := e_nd) (e_sy := e_sy) (e_na := e_na) (e_vi := e_vi) (e_le := e_le) (e_op0 := e_op0) (e_tk0 := e_tk0) (e_ec := e_ec) (i_LT := i_LT) (i_SV := i_SV) (i_PQ := i_PQ) (h_lv := h_lv) (p_0 := p_0) (p_1 := p_1) (p_2 := p_2) (p_3 := p_3) (p_4 := p_4) (p_5 := p_5) (p_6 := p_6) (p_7 := p_7) (p_8 := p_8) (p_9 := p_9) (p_10 := p_10) L G410 A456 (n) (at2_413) (tk2_417) (fk2_414) (nd2_416) (op2_415) (sy1) (na1) (ec2_418) gL_0 gL_1 gL_2 hW457 hF458 hP460 hS461 hV462 ((e423)) ((e427)) ((e424)) ((e426)) ((e425)) (((hF420.1 19 rfl).trans (ex_sy1))) (((hF420.1 28 rfl).trans (ex_na1))) (ec464) (((hF420.1 9 rfl).trans (fx_9))) (((hF420.1 29 rfl).trans (fx_29))) (by omega) (by omega) (by omega) (by omega) (by omega) (by omega) (by omega) (by omega) (by omega)
  · have _q : True := trivial
    refine jr_st (pc' := 106) (i := 19) (m := 7000) (z := n) (y := r412) rfl (by decide) rfl (by decide) (by omega) (by omega) rfl ?_
    have hW467 : Wk G410 (uA A411 19 (n).toNat (r412)) := Wk_a hW419 (show (-2147483648 : Int) ≤ r412 by omega) (show r412 ≤ (2147483647 : Int) by omega)
    have hF468 := Fr_a (z := r412) (k := 19) (n := (n).toNat) hF436 (by decide)
    obtain ⟨A466, eA466⟩ : ∃ q, q = uA A411 19 (n).toNat (r412) := ⟨_, rfl⟩
    rw [← eA466]
    rw [← eA466] at hW467 hF468
    have q469 : A466 19 (n).toNat = r412 := by rw [eA466]; exact uA_eq
    have hP470 : Pf nd A A466 := eA466 ▸ Pf_a hP438 (z := n) (by omega) (by omega)
    have hS471 : Fx sr (sy) A A466 := eA466 ▸ Fx_n hS439 rfl
    have hV472 : Fx [14] (vi) A A466 := eA466 ▸ Fx_n hV440 rfl
    have sf473 : ND A466 (n) (27) (sa1) (0) (r412) (0) (0) (0) := ND_c eA466 sf441
    have sf474 : wE A466 Vs sb (2 * 9 + 2) (r412) (nd1) (nd2_416) := wE_ag (by omega) (Sg_ne eA466 rfl) (Ag_st eA466 (by omega) (by omega)) a454
    have ec475 : ecn A466 (G410 31) = ec2_418 := (ecn_e ((congrFun eA466 15).trans (uA_ne (by decide)))).trans e428
    have z476 := tz_f (tk2_417)
    exact c_readSeq_w_at_106 (X := X) (k := k) (hP := hP) (d := d) (Vs := Vs) (sb := sb) (pb := pb) (hvb := hvb) (c0 := c0) (c1 := c1) (G := G) (A := A) (T := T) (lv := lv) (ln := ln) (li := li) (at0 := at0) (fk := fk) (nd := nd) (sy := sy) (na := na) (vi := vi) (le := le) (op0 := op0) (tk0 := tk0) (ec := ec) (hd := hd) (hW := hW) (e_ln := e_ln) (e_li := e_li) (e_at0 := e_at0) (e_fk := e_fk) (e_nd := e_nd) (e_sy := e_sy) (e_na := e_na) (e_vi := e_vi) (e_le := e_le) (e_op0 := e_op0) (e_tk0 := e_tk0) (e_ec := e_ec) (i_LT := i_LT) (i_SV := i_SV) (i_PQ := i_PQ) (h_lv := h_lv) (p_0 := p_0) (p_1 := p_1) (p_2 := p_2) (p_3 := p_3) (p_4 := p_4) (p_5 := p_5) (p_6 := p_6) (p_7 := p_7) (p_8 := p_8) (p_9 := p_9) (p_10 := p_10) L G410 A466 (n) (at2_413) (tk2_417) (fk2_414) (nd2_416) (op2_415) (sy1) (na1) (sa1) (ka1) (r412) (ec2_418) gL_0 gL_1 gL_2 hW467 hF468 hP470 hS471 hV472 ((e423)) ((e427)) ((e424)) ((e426)) ((e425)) (((hF420.1 19 rfl).trans (ex_sy1))) (((hF420.1 28 rfl).trans (ex_na1))) ((congrFun ((congrFun eA466 17).trans (uA_ne (by decide))) _).trans (k437)) ((congrFun (((congrFun eA466 7).trans (uA_ne (by decide))).trans (hF420.2 7 rfl)) _).trans (ex_ka1)) ((q469)) (ec475) (((hF420.1 9 rfl).trans (fx_9))) (((hF420.1 29 rfl).trans (fx_29))) (by omega) (by omega) (by omega) (by omega) (by omega) (by omega) (by omega) (by omega) (by omega) (by omega) (by omega) (by omega) (sf473) ((wE_mono (by omega) (by omega) (by omega) sf474)) (by omega)
set_option maxRecDepth 20000 in
set_option maxHeartbeats 4000000 in
theorem c_readSeq_w_at_86p {X : jX} {k : Nat} (hP : RPw X k) {d : Nat} {Vs : Nat → Prop} {sb pb : Int} (hvb : VB Vs sb) {c0 c1 : jC} {G : Nat → Int} {A : Nat → Nat → Int} {T : jH} {lv : Int} {ln li at0 fk nd sy na vi le op0 tk0 ec : Int} (hd : 8 * k + 82 ≤ d + 1) (hW : Wk G A) (e_ln : G 9 = ln) (e_li : G 3 = li) (e_at0 : G 10 = at0) (e_fk : G 16 = fk) (e_nd : G 31 = nd) (e_sy : G 19 = sy) (e_na : G 28 = na) (e_vi : G 29 = vi) (e_le : A 4 (ln).toNat = le) (e_op0 : G 15 = op0) (e_tk0 : G 11 = tk0) (e_ec : ecn A (G 31) = ec) (i_LT : LT G A) (i_SV : SV Vs sb G A) (i_PQ : PQ Vs sb pb G A) (h_lv : (-2147483648 : Int) ≤ lv ∧ lv ≤ 2147483647) (p_0 : 0 ≤ lv ∧ lv ≤ 15) (p_1 : 18 - lv ≤ ((k + 1 : Nat) : Int)) (p_2 : fk = 0) (p_3 : ln < li) (p_4 : at0 ≤ le) (p_5 : op0 = 0) (p_6 : nd ≤ 2 * at0 - tz tk0 + 30) (p_7 : sy ≤ na + 2) (p_8 : vi ≤ sy) (p_9 : sb = sy) (p_10 : 1 ≤ tk0) : ∀ (L : jL) (Gx : Nat → Int) (Ax : Nat → Nat → Int) (n at1 tk1 fk1 nd1 op1 sy1 na1 ec1 : Int), jGet L 0 = some (.ref 66) → jGet L 1 = some (.int (i32 (lv))) → jGet L 2 = some (.int (i32 n)) → Wk Gx Ax → Fr [9, 10, 11, 12, 13, 14, 15, 16, 17, 18, 19, 28, 29, 31] [6, 7, 8, 9, 10, 11, 12, 14, 15, 16, 17, 18, 19, 20, 21, 22, 23, 24, 28] G A Gx Ax → Pf nd A Ax → Fx sr (sy) A Ax → Fx [14] (vi) A Ax → Gx 10 = at1 → Gx 11 = tk1 → Gx 16 = fk1 → Gx 31 = nd1 → Gx 15 = op1 → Gx 19 = sy1 → Gx 28 = na1 → ecn Ax (Gx 31) = ec1 → Gx 9 = ln → Gx 29 = vi → ((-2147483648 : Int) ≤ n ∧ n ≤ 2147483647) → (1 ≤ fk1) → (at0 ≤ at1) → (at1 ≤ le) → (nd ≤ n ∧ n ≤ 6998 ∧ n < nd1) → (sy ≤ sy1) → (sy1 ≤ na1 + 2) → (0 ≤ op1 ∧ op1 ≤ 9) → (nd1 - nd ≤ 2 * at1 - 2 * at0 + 8) → wj X d jm297 (86, L, [], rV c0 c1 Gx Ax T) (fun o V' => ∃ (G' : Nat → Int) (A' : Nat → Nat → Int) (r : Int) (ln2 : Int) (at2 : Int) (fk2 : Int) (nd2 : Int) (sy2 : Int) (na2 : Int) (vi2 : Int) (lf2 : Int) (ec2 : Int), V' = rV c0 c1 G' A' T ∧ o = .inl (some (.int (i32 r))) ∧ Wk G' A' ∧ Fr [9, 10, 11, 12, 13, 14, 15, 16, 17, 18, 19, 28, 29, 31] [6, 7, 8, 9, 10, 11, 12, 14, 15, 16, 17, 18, 19, 20, 21, 22, 23, 24, 28] G A G' A' ∧ Pf nd A A' ∧ Fx sr (sy) A A' ∧ Fx [14] (vi) A A' ∧ ((-2147483648 : Int) ≤ r ∧ r ≤ 2147483647) ∧ G' 9 = ln2 ∧ G' 10 = at2 ∧ G' 16 = fk2 ∧ G' 31 = nd2 ∧ G' 19 = sy2 ∧ G' 28 = na2 ∧ G' 29 = vi2 ∧ A' 3 (ln2).toNat = lf2 ∧ ecn A' (G' 31) = ec2 ∧ (at0 ≤ at2) ∧ (nd ≤ nd2) ∧ (sy ≤ sy2) ∧ (sy2 ≤ na2 + 2) ∧ (vi ≤ vi2) ∧ (vi2 ≤ vi + 1) ∧ (0 ≤ r) ∧ (r ≤ 6999) ∧ (ln ≤ ln2) ∧ (ln2 ≤ li) ∧ (((1 ≤ fk2) ∧ (nd2 - nd ≤ 2 * at2 - (2 * at0 - tz tk0) + 14)) ∨ ((fk2 = 0) ∧ (vi2 = vi) ∧ (ln < ln2) ∧ (nd2 - nd ≤ 2 * at2 - (2 * at0 - tz tk0)) ∧ (at2 < lf2 ∨ li ≤ ln2) ∧ (nd ≤ r) ∧ (r < nd2) ∧ (wSt A' (sy2) pb (wP A' (sy2) pb (k)) (Vs) (r) (nd) (nd2) (sy) (sy2)) ∧ (NX A' (r)) ∧ (nd2 - nd + 5 * (ec2 - ec) ≤ 2 * at2 - (2 * at0 - tz tk0)) ∧ (nd + 5 * ec ≤ r)))) := by
  have hF0 : Fr [9, 10, 11, 12, 13, 14, 15, 16, 17, 18, 19, 28, 29, 31] [6, 7, 8, 9, 10, 11, 12, 14, 15, 16, 17, 18, 19, 20, 21, 22, 23, 24, 28] G A G A := Fr_rf
  have hP0 : Pf nd A A := Pf_rf
  have hS0 : Fx sr (sy) A A := Fx_rf
  have hV0 : Fx [14] (vi) A A := Fx_rf
  have b_ln : (0 : Int) ≤ ln ∧ ln ≤ 3000 := e_ln ▸ hW.1 9
  have b_li : (0 : Int) ≤ li ∧ li ≤ 3000 := e_li ▸ hW.1 3
  have b_at0 : (0 : Int) ≤ at0 ∧ at0 ≤ 3002 := e_at0 ▸ hW.1 10
  have b_fk : (0 : Int) ≤ fk ∧ fk ≤ 6 := e_fk ▸ hW.1 16
  have b_nd : (0 : Int) ≤ nd ∧ nd ≤ 6999 := e_nd ▸ hW.1 31
  have b_sy : (0 : Int) ≤ sy ∧ sy ≤ 202 := e_sy ▸ hW.1 19
  have b_na : (0 : Int) ≤ na ∧ na ≤ 200 := e_na ▸ hW.1 28
  have b_vi : (0 : Int) ≤ vi ∧ vi ≤ 202 := e_vi ▸ hW.1 29
  have b_le : (0 : Int) ≤ le ∧ le ≤ 3000 := e_le ▸ hW.2 4 _
  have b_op0 : (-2147483648 : Int) ≤ op0 ∧ op0 ≤ 2147483647 := e_op0 ▸ hW.1 15
  have z_tk0 := tz_f tk0
  have b_tk0 : (0 : Int) ≤ tk0 ∧ tk0 ≤ 5 := e_tk0 ▸ hW.1 11
  intro L Gx Ax n at1 tk1 fk1 nd1 op1 sy1 na1 ec1 gL_0 gL_1 gL_2 hWx hFx hPx hSx hVx ex_at1 ex_tk1 ex_fk1 ex_nd1 ex_op1 ex_sy1 ex_na1 ex_ec1 fx_9 fx_29 rx_n iv_0 iv_1 iv_2 iv_3 iv_4 iv_5 iv_6 iv_7
  have b_at1 : (0 : Int) ≤ at1 ∧ at1 ≤ 3002 := ex_at1 ▸ hWx.1 10
  have z_tk1 := tz_f tk1
  have b_tk1 : (0 : Int) ≤ tk1 ∧ tk1 ≤ 5 := ex_tk1 ▸ hWx.1 11
  have b_fk1 : (0 : Int) ≤ fk1 ∧ fk1 ≤ 6 := ex_fk1 ▸ hWx.1 16
  have b_nd1 : (0 : Int) ≤ nd1 ∧ nd1 ≤ 6999 := ex_nd1 ▸ hWx.1 31
  have b_op1 : (-2147483648 : Int) ≤ op1 ∧ op1 ≤ 2147483647 := ex_op1 ▸ hWx.1 15
  have b_sy1 : (0 : Int) ≤ sy1 ∧ sy1 ≤ 202 := ex_sy1 ▸ hWx.1 19
  have b_na1 : (0 : Int) ≤ na1 ∧ na1 ≤ 200 := ex_na1 ▸ hWx.1 28
  refine jx_ld (pc' := 87) (l' := L) (st' := [.ref 66]) rfl (jl_aloadn gL_0) ?_
  refine jx_ld (pc' := 88) (l' := L) (st' := [.ref 66, .ref 66]) rfl (jl_aloadn gL_0) ?_
  refine jx_ar (pc' := 90) (st' := [.int (i32 (61)), .ref 66, .ref 66]) rfl rfl rfl rfl ?_
  have b477 : (-2147483648 : Int) ≤ Gx 13 ∧ Gx 13 ≤ 2147483647 := hWx.1 13
  refine jx_vr (pc' := 93) (as := [.int (i32 (61))]) (st := [.ref 66]) rfl rfl rfl rfl ⟨rfl, rfl, Nat.le_of_ble_eq_true rfl⟩ rfl rfl (c_is (dd := d) (hd := by omega) (hW := hWx) (k := 61) (tk := tk1) (e_tk := show Gx 11 = tk1 from (ex_tk1)) (tn := Gx 13) (e_tn := show Gx 13 = Gx 13 from rfl)  (h_k := ⟨(by decide), (by decide)⟩)  ) (fun o V' hq => ?_)
  obtain ⟨r478, rfl, rfl, b479, q480⟩ := hq
  refine .inr ⟨_, rfl, ?_⟩
  rcases q480 with ⟨rfl, a481, a482, a483⟩ | rfl
  · have _q : True := trivial
    refine jx_vr (pc' := 96) (as := [.int (i32 (1))]) (st := []) rfl rfl rfl rfl ⟨rfl, rfl, Nat.le_of_ble_eq_true rfl⟩ rfl rfl (c_need (dd := d) (hd := by omega) (hW := hWx) (g := 1) (ln := ln) (e_ln := show Gx 9 = ln from (fx_9)) (le := le) (e_le := show Ax 4 (ln).toNat = le from (congrFun (hFx.2 4 rfl) _).trans (e_le)) (at0 := at1) (e_at0 := show Gx 10 = at1 from (ex_at1)) (fk := fk1) (e_fk := show Gx 16 = fk1 from (ex_fk1)) (tk0 := tk1) (e_tk0 := show Gx 11 = tk1 from (ex_tk1))  (h_g := ⟨(by decide), (by decide)⟩)  (p_0 := by omega)) (fun o V' hq => ?_)
    obtain ⟨G484, A485, at2_486, tk2_487, fk2_488, rfl, rfl, hW489, hF490, e491, e492, e493, p494, p495, q496⟩ := hq
    have hF497 := Fr_tr hFx hF490 (Fr_sub (by decide)) (Fr_sub (by decide))
    have hP498 := Pf_f hPx hF490 (by decide)
    have hS499 := Fx_f hSx hF490 (by decide)
    have hV500 := Fx_f hVx hF490 (by decide)
    have ec501 : ecn A485 (G484 31) = ec1 := (ecn_f (hF490.2 15 rfl) (hF490.1 31 rfl)).trans ex_ec1
    have bat2_486 : (0 : Int) ≤ at2_486 ∧ at2_486 ≤ 3002 := e491 ▸ hW489.1 10
    have ztk2_487 := tz_b tk2_487
    have btk2_487 : (0 : Int) ≤ tk2_487 ∧ tk2_487 ≤ 5 := e492 ▸ hW489.1 11
    have bfk2_488 : (0 : Int) ≤ fk2_488 ∧ fk2_488 ≤ 6 := e493 ▸ hW489.1 16
    refine .inl ⟨rfl, ?_⟩
    rcases q496 with ⟨a502, a503, a504, a505⟩ | ⟨a506, a507, a508, a509⟩
    · have _q : True := trivial
      have z510 := tz_f (tk2_487)
      exact c_readSeq_w_at_96p (X := X) (k := k) (hP := hP) (d := d) (Vs := Vs) (sb := sb) (pb := pb) (hvb := hvb) (c0 := c0) (c1 := c1) (G := G) (A := A) (T := T) (lv := lv) (ln := ln) (li := li) (at0 := at0) (fk := fk) (nd := nd) (sy := sy) (na := na) (vi := vi) (le := le) (op0 := op0) (tk0 := tk0) (ec := ec) (hd := hd) (hW := hW) (e_ln := e_ln) (e_li := e_li) (e_at0 := e_at0) (e_fk := e_fk) (e_nd := e_nd) (e_sy := e_sy) (e_na := e_na) (e_vi := e_vi) (e_le := e_le) (e_op0 := e_op0) (e_tk0 := e_tk0) (e_ec := e_ec) (i_LT := i_LT) (i_SV := i_SV) (i_PQ := i_PQ) (h_lv := h_lv) (p_0 := p_0) (p_1 := p_1) (p_2 := p_2) (p_3 := p_3) (p_4 := p_4) (p_5 := p_5) (p_6 := p_6) (p_7 := p_7) (p_8 := p_8) (p_9 := p_9) (p_10 := p_10) L G484 A485 (n) (at2_486) (tk2_487) (fk2_488) (nd1) (op1) (sy1) (na1) (ec1) gL_0 gL_1 gL_2 hW489 hF497 hP498 hS499 hV500 ((e491)) ((e492)) ((e493)) (((hF490.1 31 rfl).trans (ex_nd1))) (((hF490.1 15 rfl).trans (ex_op1))) (((hF490.1 19 rfl).trans (ex_sy1))) (((hF490.1 28 rfl).trans (ex_na1))) (ec501) (((hF490.1 9 rfl).trans (fx_9))) (((hF490.1 29 rfl).trans (fx_29))) (by omega) (by omega) (by omega) (by omega) (by omega) (by omega) (by omega) (by omega) (by omega)
    · have _q : True := trivial
      exfalso
      omega
  · have _q : True := trivial
    refine jx_vr (pc' := 96) (as := [.int (i32 (0))]) (st := []) rfl rfl rfl rfl ⟨rfl, rfl, Nat.le_of_ble_eq_true rfl⟩ rfl rfl (c_need (dd := d) (hd := by omega) (hW := hWx) (g := 0) (ln := ln) (e_ln := show Gx 9 = ln from (fx_9)) (le := le) (e_le := show Ax 4 (ln).toNat = le from (congrFun (hFx.2 4 rfl) _).trans (e_le)) (at0 := at1) (e_at0 := show Gx 10 = at1 from (ex_at1)) (fk := fk1) (e_fk := show Gx 16 = fk1 from (ex_fk1)) (tk0 := tk1) (e_tk0 := show Gx 11 = tk1 from (ex_tk1))  (h_g := ⟨(by decide), (by decide)⟩)  (p_0 := by omega)) (fun o V' hq => ?_)
    obtain ⟨G511, A512, at2_513, tk2_514, fk2_515, rfl, rfl, hW516, hF517, e518, e519, e520, p521, p522, q523⟩ := hq
    have hF524 := Fr_tr hFx hF517 (Fr_sub (by decide)) (Fr_sub (by decide))
    have hP525 := Pf_f hPx hF517 (by decide)
    have hS526 := Fx_f hSx hF517 (by decide)
    have hV527 := Fx_f hVx hF517 (by decide)
    have ec528 : ecn A512 (G511 31) = ec1 := (ecn_f (hF517.2 15 rfl) (hF517.1 31 rfl)).trans ex_ec1
    have bat2_513 : (0 : Int) ≤ at2_513 ∧ at2_513 ≤ 3002 := e518 ▸ hW516.1 10
    have ztk2_514 := tz_b tk2_514
    have btk2_514 : (0 : Int) ≤ tk2_514 ∧ tk2_514 ≤ 5 := e519 ▸ hW516.1 11
    have bfk2_515 : (0 : Int) ≤ fk2_515 ∧ fk2_515 ≤ 6 := e520 ▸ hW516.1 16
    refine .inl ⟨rfl, ?_⟩
    rcases q523 with ⟨a529, a530, a531, a532⟩ | ⟨a533, a534, a535, a536⟩
    · have _q : True := trivial
      have z537 := tz_f (tk2_514)
      exact c_readSeq_w_at_96p (X := X) (k := k) (hP := hP) (d := d) (Vs := Vs) (sb := sb) (pb := pb) (hvb := hvb) (c0 := c0) (c1 := c1) (G := G) (A := A) (T := T) (lv := lv) (ln := ln) (li := li) (at0 := at0) (fk := fk) (nd := nd) (sy := sy) (na := na) (vi := vi) (le := le) (op0 := op0) (tk0 := tk0) (ec := ec) (hd := hd) (hW := hW) (e_ln := e_ln) (e_li := e_li) (e_at0 := e_at0) (e_fk := e_fk) (e_nd := e_nd) (e_sy := e_sy) (e_na := e_na) (e_vi := e_vi) (e_le := e_le) (e_op0 := e_op0) (e_tk0 := e_tk0) (e_ec := e_ec) (i_LT := i_LT) (i_SV := i_SV) (i_PQ := i_PQ) (h_lv := h_lv) (p_0 := p_0) (p_1 := p_1) (p_2 := p_2) (p_3 := p_3) (p_4 := p_4) (p_5 := p_5) (p_6 := p_6) (p_7 := p_7) (p_8 := p_8) (p_9 := p_9) (p_10 := p_10) L G511 A512 (n) (at2_513) (tk2_514) (fk2_515) (nd1) (op1) (sy1) (na1) (ec1) gL_0 gL_1 gL_2 hW516 hF524 hP525 hS526 hV527 ((e518)) ((e519)) ((e520)) (((hF517.1 31 rfl).trans (ex_nd1))) (((hF517.1 15 rfl).trans (ex_op1))) (((hF517.1 19 rfl).trans (ex_sy1))) (((hF517.1 28 rfl).trans (ex_na1))) (ec528) (((hF517.1 9 rfl).trans (fx_9))) (((hF517.1 29 rfl).trans (fx_29))) (by omega) (by omega) (by omega) (by omega) (by omega) (by omega) (by omega) (by omega) (by omega)
    · have _q : True := trivial
      exfalso
      omega
set_option maxRecDepth 20000 in
set_option maxHeartbeats 4000000 in
theorem c_readSeq_w_at_86 {X : jX} {k : Nat} (hP : RPw X k) {d : Nat} {Vs : Nat → Prop} {sb pb : Int} (hvb : VB Vs sb) {c0 c1 : jC} {G : Nat → Int} {A : Nat → Nat → Int} {T : jH} {lv : Int} {ln li at0 fk nd sy na vi le op0 tk0 ec : Int} (hd : 8 * k + 82 ≤ d + 1) (hW : Wk G A) (e_ln : G 9 = ln) (e_li : G 3 = li) (e_at0 : G 10 = at0) (e_fk : G 16 = fk) (e_nd : G 31 = nd) (e_sy : G 19 = sy) (e_na : G 28 = na) (e_vi : G 29 = vi) (e_le : A 4 (ln).toNat = le) (e_op0 : G 15 = op0) (e_tk0 : G 11 = tk0) (e_ec : ecn A (G 31) = ec) (i_LT : LT G A) (i_SV : SV Vs sb G A) (i_PQ : PQ Vs sb pb G A) (h_lv : (-2147483648 : Int) ≤ lv ∧ lv ≤ 2147483647) (p_0 : 0 ≤ lv ∧ lv ≤ 15) (p_1 : 18 - lv ≤ ((k + 1 : Nat) : Int)) (p_2 : fk = 0) (p_3 : ln < li) (p_4 : at0 ≤ le) (p_5 : op0 = 0) (p_6 : nd ≤ 2 * at0 - tz tk0 + 30) (p_7 : sy ≤ na + 2) (p_8 : vi ≤ sy) (p_9 : sb = sy) (p_10 : 1 ≤ tk0) : ∀ (L : jL) (Gx : Nat → Int) (Ax : Nat → Nat → Int) (n at1 tk1 fk1 nd1 op1 sy1 na1 sa1 ka1 ec1 : Int), jGet L 0 = some (.ref 66) → jGet L 1 = some (.int (i32 (lv))) → jGet L 2 = some (.int (i32 n)) → Wk Gx Ax → Fr [9, 10, 11, 12, 13, 14, 15, 16, 17, 18, 19, 28, 29, 31] [6, 7, 8, 9, 10, 11, 12, 14, 15, 16, 17, 18, 19, 20, 21, 22, 23, 24, 28] G A Gx Ax → Pf nd A Ax → Fx sr (sy) A Ax → Fx [14] (vi) A Ax → Gx 10 = at1 → Gx 11 = tk1 → Gx 16 = fk1 → Gx 31 = nd1 → Gx 15 = op1 → Gx 19 = sy1 → Gx 28 = na1 → Ax 17 (n).toNat = sa1 → Ax 7 (sa1).toNat = ka1 → ecn Ax (Gx 31) = ec1 → Gx 9 = ln → Gx 29 = vi → ((-2147483648 : Int) ≤ n ∧ n ≤ 2147483647) → (fk1 = 0) → (at0 ≤ at1) → (at1 ≤ le) → (n = nd) → (n ≤ 6998 ∧ n < nd1) → (sy1 = sy + 1) → (sa1 = sy) → (sy1 ≤ na1 + 2) → (op1 = 0) → (nd1 - nd ≤ (2 * at1 - tz tk1) - (2 * at0 - tz tk0)) → (ka1 = 9) → (nd1 = n + 1) → (ND Ax (n) (27) (sa1) (0) (0) (0) (0) (0)) → (nd1 - nd + 5 * (ec1 - ec) ≤ (2 * at1 - tz tk1) - (2 * at0 - tz tk0)) → wj X d jm297 (86, L, [], rV c0 c1 Gx Ax T) (fun o V' => ∃ (G' : Nat → Int) (A' : Nat → Nat → Int) (r : Int) (ln2 : Int) (at2 : Int) (fk2 : Int) (nd2 : Int) (sy2 : Int) (na2 : Int) (vi2 : Int) (lf2 : Int) (ec2 : Int), V' = rV c0 c1 G' A' T ∧ o = .inl (some (.int (i32 r))) ∧ Wk G' A' ∧ Fr [9, 10, 11, 12, 13, 14, 15, 16, 17, 18, 19, 28, 29, 31] [6, 7, 8, 9, 10, 11, 12, 14, 15, 16, 17, 18, 19, 20, 21, 22, 23, 24, 28] G A G' A' ∧ Pf nd A A' ∧ Fx sr (sy) A A' ∧ Fx [14] (vi) A A' ∧ ((-2147483648 : Int) ≤ r ∧ r ≤ 2147483647) ∧ G' 9 = ln2 ∧ G' 10 = at2 ∧ G' 16 = fk2 ∧ G' 31 = nd2 ∧ G' 19 = sy2 ∧ G' 28 = na2 ∧ G' 29 = vi2 ∧ A' 3 (ln2).toNat = lf2 ∧ ecn A' (G' 31) = ec2 ∧ (at0 ≤ at2) ∧ (nd ≤ nd2) ∧ (sy ≤ sy2) ∧ (sy2 ≤ na2 + 2) ∧ (vi ≤ vi2) ∧ (vi2 ≤ vi + 1) ∧ (0 ≤ r) ∧ (r ≤ 6999) ∧ (ln ≤ ln2) ∧ (ln2 ≤ li) ∧ (((1 ≤ fk2) ∧ (nd2 - nd ≤ 2 * at2 - (2 * at0 - tz tk0) + 14)) ∨ ((fk2 = 0) ∧ (vi2 = vi) ∧ (ln < ln2) ∧ (nd2 - nd ≤ 2 * at2 - (2 * at0 - tz tk0)) ∧ (at2 < lf2 ∨ li ≤ ln2) ∧ (nd ≤ r) ∧ (r < nd2) ∧ (wSt A' (sy2) pb (wP A' (sy2) pb (k)) (Vs) (r) (nd) (nd2) (sy) (sy2)) ∧ (NX A' (r)) ∧ (nd2 - nd + 5 * (ec2 - ec) ≤ 2 * at2 - (2 * at0 - tz tk0)) ∧ (nd + 5 * ec ≤ r)))) := by
  have hF0 : Fr [9, 10, 11, 12, 13, 14, 15, 16, 17, 18, 19, 28, 29, 31] [6, 7, 8, 9, 10, 11, 12, 14, 15, 16, 17, 18, 19, 20, 21, 22, 23, 24, 28] G A G A := Fr_rf
  have hP0 : Pf nd A A := Pf_rf
  have hS0 : Fx sr (sy) A A := Fx_rf
  have hV0 : Fx [14] (vi) A A := Fx_rf
  have b_ln : (0 : Int) ≤ ln ∧ ln ≤ 3000 := e_ln ▸ hW.1 9
  have b_li : (0 : Int) ≤ li ∧ li ≤ 3000 := e_li ▸ hW.1 3
  have b_at0 : (0 : Int) ≤ at0 ∧ at0 ≤ 3002 := e_at0 ▸ hW.1 10
  have b_fk : (0 : Int) ≤ fk ∧ fk ≤ 6 := e_fk ▸ hW.1 16
  have b_nd : (0 : Int) ≤ nd ∧ nd ≤ 6999 := e_nd ▸ hW.1 31
  have b_sy : (0 : Int) ≤ sy ∧ sy ≤ 202 := e_sy ▸ hW.1 19
  have b_na : (0 : Int) ≤ na ∧ na ≤ 200 := e_na ▸ hW.1 28
  have b_vi : (0 : Int) ≤ vi ∧ vi ≤ 202 := e_vi ▸ hW.1 29
  have b_le : (0 : Int) ≤ le ∧ le ≤ 3000 := e_le ▸ hW.2 4 _
  have b_op0 : (-2147483648 : Int) ≤ op0 ∧ op0 ≤ 2147483647 := e_op0 ▸ hW.1 15
  have z_tk0 := tz_f tk0
  have b_tk0 : (0 : Int) ≤ tk0 ∧ tk0 ≤ 5 := e_tk0 ▸ hW.1 11
  intro L Gx Ax n at1 tk1 fk1 nd1 op1 sy1 na1 sa1 ka1 ec1 gL_0 gL_1 gL_2 hWx hFx hPx hSx hVx ex_at1 ex_tk1 ex_fk1 ex_nd1 ex_op1 ex_sy1 ex_na1 ex_sa1 ex_ka1 ex_ec1 fx_9 fx_29 rx_n iv_0 iv_1 iv_2 iv_3 iv_4 iv_5 iv_6 iv_7 iv_8 iv_9 iv_10 iv_11 iv_12 iv_13
  have b_at1 : (0 : Int) ≤ at1 ∧ at1 ≤ 3002 := ex_at1 ▸ hWx.1 10
  have z_tk1 := tz_f tk1
  have b_tk1 : (0 : Int) ≤ tk1 ∧ tk1 ≤ 5 := ex_tk1 ▸ hWx.1 11
  have b_fk1 : (0 : Int) ≤ fk1 ∧ fk1 ≤ 6 := ex_fk1 ▸ hWx.1 16
  have b_nd1 : (0 : Int) ≤ nd1 ∧ nd1 ≤ 6999 := ex_nd1 ▸ hWx.1 31
  have b_op1 : (-2147483648 : Int) ≤ op1 ∧ op1 ≤ 2147483647 := ex_op1 ▸ hWx.1 15
  have b_sy1 : (0 : Int) ≤ sy1 ∧ sy1 ≤ 202 := ex_sy1 ▸ hWx.1 19
  have b_na1 : (0 : Int) ≤ na1 ∧ na1 ≤ 200 := ex_na1 ▸ hWx.1 28
  refine jx_ld (pc' := 87) (l' := L) (st' := [.ref 66]) rfl (jl_aloadn gL_0) ?_
  refine jx_ld (pc' := 88) (l' := L) (st' := [.ref 66, .ref 66]) rfl (jl_aloadn gL_0) ?_
  refine jx_ar (pc' := 90) (st' := [.int (i32 (61)), .ref 66, .ref 66]) rfl rfl rfl rfl ?_
  have b538 : (-2147483648 : Int) ≤ Gx 13 ∧ Gx 13 ≤ 2147483647 := hWx.1 13
  refine jx_vr (pc' := 93) (as := [.int (i32 (61))]) (st := [.ref 66]) rfl rfl rfl rfl ⟨rfl, rfl, Nat.le_of_ble_eq_true rfl⟩ rfl rfl (c_is (dd := d) (hd := by omega) (hW := hWx) (k := 61) (tk := tk1) (e_tk := show Gx 11 = tk1 from (ex_tk1)) (tn := Gx 13) (e_tn := show Gx 13 = Gx 13 from rfl)  (h_k := ⟨(by decide), (by decide)⟩)  ) (fun o V' hq => ?_)
  obtain ⟨r539, rfl, rfl, b540, q541⟩ := hq
  refine .inr ⟨_, rfl, ?_⟩
  rcases q541 with ⟨rfl, a542, a543, a544⟩ | rfl
  · have _q : True := trivial
    refine jx_vr (pc' := 96) (as := [.int (i32 (1))]) (st := []) rfl rfl rfl rfl ⟨rfl, rfl, Nat.le_of_ble_eq_true rfl⟩ rfl rfl (c_need (dd := d) (hd := by omega) (hW := hWx) (g := 1) (ln := ln) (e_ln := show Gx 9 = ln from (fx_9)) (le := le) (e_le := show Ax 4 (ln).toNat = le from (congrFun (hFx.2 4 rfl) _).trans (e_le)) (at0 := at1) (e_at0 := show Gx 10 = at1 from (ex_at1)) (fk := fk1) (e_fk := show Gx 16 = fk1 from (ex_fk1)) (tk0 := tk1) (e_tk0 := show Gx 11 = tk1 from (ex_tk1))  (h_g := ⟨(by decide), (by decide)⟩)  (p_0 := by omega)) (fun o V' hq => ?_)
    obtain ⟨G545, A546, at2_547, tk2_548, fk2_549, rfl, rfl, hW550, hF551, e552, e553, e554, p555, p556, q557⟩ := hq
    have hF558 := Fr_tr hFx hF551 (Fr_sub (by decide)) (Fr_sub (by decide))
    have hP559 := Pf_f hPx hF551 (by decide)
    have hS560 := Fx_f hSx hF551 (by decide)
    have hV561 := Fx_f hVx hF551 (by decide)
    have sf562 : ND A546 (n) (27) (sa1) (0) (0) (0) (0) (0) := ND_ag (by omega) (Ag_fr hF551 (by decide)) iv_12
    have ec563 : ecn A546 (G545 31) = ec1 := (ecn_f (hF551.2 15 rfl) (hF551.1 31 rfl)).trans ex_ec1
    have bat2_547 : (0 : Int) ≤ at2_547 ∧ at2_547 ≤ 3002 := e552 ▸ hW550.1 10
    have ztk2_548 := tz_b tk2_548
    have btk2_548 : (0 : Int) ≤ tk2_548 ∧ tk2_548 ≤ 5 := e553 ▸ hW550.1 11
    have bfk2_549 : (0 : Int) ≤ fk2_549 ∧ fk2_549 ≤ 6 := e554 ▸ hW550.1 16
    refine .inl ⟨rfl, ?_⟩
    rcases q557 with ⟨a564, a565, a566, a567⟩ | ⟨a568, a569, a570, a571⟩
    · have _q : True := trivial
      have z572 := tz_f (tk2_548)
      exact c_readSeq_w_at_96p (X := X) (k := k) (hP := hP) (d := d) (Vs := Vs) (sb := sb) (pb := pb) (hvb := hvb) (c0 := c0) (c1 := c1) (G := G) (A := A) (T := T) (lv := lv) (ln := ln) (li := li) (at0 := at0) (fk := fk) (nd := nd) (sy := sy) (na := na) (vi := vi) (le := le) (op0 := op0) (tk0 := tk0) (ec := ec) (hd := hd) (hW := hW) (e_ln := e_ln) (e_li := e_li) (e_at0 := e_at0) (e_fk := e_fk) (e_nd := e_nd) (e_sy := e_sy) (e_na := e_na) (e_vi := e_vi) (e_le := e_le) (e_op0 := e_op0) (e_tk0 := e_tk0) (e_ec := e_ec) (i_LT := i_LT) (i_SV := i_SV) (i_PQ := i_PQ) (h_lv := h_lv) (p_0 := p_0) (p_1 := p_1) (p_2 := p_2) (p_3 := p_3) (p_4 := p_4) (p_5 := p_5) (p_6 := p_6) (p_7 := p_7) (p_8 := p_8) (p_9 := p_9) (p_10 := p_10) L G545 A546 (n) (at2_547) (tk2_548) (fk2_549) (nd1) (op1) (sy1) (na1) (ec1) gL_0 gL_1 gL_2 hW550 hF558 hP559 hS560 hV561 ((e552)) ((e553)) ((e554)) (((hF551.1 31 rfl).trans (ex_nd1))) (((hF551.1 15 rfl).trans (ex_op1))) (((hF551.1 19 rfl).trans (ex_sy1))) (((hF551.1 28 rfl).trans (ex_na1))) (ec563) (((hF551.1 9 rfl).trans (fx_9))) (((hF551.1 29 rfl).trans (fx_29))) (by omega) (by omega) (by omega) (by omega) (by omega) (by omega) (by omega) (by omega) (by omega)
    · have _q : True := trivial
      have z573 := tz_f (tk2_548)
      exact c_readSeq_w_at_96 (X := X) (k := k) (hP := hP) (d := d) (Vs := Vs) (sb := sb) (pb := pb) (hvb := hvb) (c0 := c0) (c1 := c1) (G := G) (A := A) (T := T) (lv := lv) (ln := ln) (li := li) (at0 := at0) (fk := fk) (nd := nd) (sy := sy) (na := na) (vi := vi) (le := le) (op0 := op0) (tk0 := tk0) (ec := ec) (hd := hd) (hW := hW) (e_ln := e_ln) (e_li := e_li) (e_at0 := e_at0) (e_fk := e_fk) (e_nd := e_nd) (e_sy := e_sy) (e_na := e_na) (e_vi := e_vi) (e_le := e_le) (e_op0 := e_op0) (e_tk0 := e_tk0) (e_ec := e_ec) (i_LT := i_LT) (i_SV := i_SV) (i_PQ := i_PQ) (h_lv := h_lv) (p_0 := p_0) (p_1 := p_1) (p_2 := p_2) (p_3 := p_3) (p_4 := p_4) (p_5 := p_5) (p_6 := p_6) (p_7 := p_7) (p_8 := p_8) (p_9 := p_9) (p_10 := p_10) L G545 A546 (n) (at2_547) (tk2_548) (fk2_549) (nd1) (op1) (sy1) (na1) (sa1) (ka1) (ec1) gL_0 gL_1 gL_2 hW550 hF558 hP559 hS560 hV561 ((e552)) ((e553)) ((e554)) (((hF551.1 31 rfl).trans (ex_nd1))) (((hF551.1 15 rfl).trans (ex_op1))) (((hF551.1 19 rfl).trans (ex_sy1))) (((hF551.1 28 rfl).trans (ex_na1))) ((congrFun (hF551.2 17 rfl) _).trans (ex_sa1)) ((congrFun (hF551.2 7 rfl) _).trans (ex_ka1)) (ec563) (((hF551.1 9 rfl).trans (fx_9))) (((hF551.1 29 rfl).trans (fx_29))) (by omega) (by omega) (by omega) (by omega) (by omega) (by omega) (by omega) (by omega) (by omega) (by omega) (by omega) (by omega) (by omega) (sf562) (by omega)
  · have _q : True := trivial
    refine jx_vr (pc' := 96) (as := [.int (i32 (0))]) (st := []) rfl rfl rfl rfl ⟨rfl, rfl, Nat.le_of_ble_eq_true rfl⟩ rfl rfl (c_need (dd := d) (hd := by omega) (hW := hWx) (g := 0) (ln := ln) (e_ln := show Gx 9 = ln from (fx_9)) (le := le) (e_le := show Ax 4 (ln).toNat = le from (congrFun (hFx.2 4 rfl) _).trans (e_le)) (at0 := at1) (e_at0 := show Gx 10 = at1 from (ex_at1)) (fk := fk1) (e_fk := show Gx 16 = fk1 from (ex_fk1)) (tk0 := tk1) (e_tk0 := show Gx 11 = tk1 from (ex_tk1))  (h_g := ⟨(by decide), (by decide)⟩)  (p_0 := by omega)) (fun o V' hq => ?_)
    obtain ⟨G574, A575, at2_576, tk2_577, fk2_578, rfl, rfl, hW579, hF580, e581, e582, e583, p584, p585, q586⟩ := hq
    have hF587 := Fr_tr hFx hF580 (Fr_sub (by decide)) (Fr_sub (by decide))
    have hP588 := Pf_f hPx hF580 (by decide)
    have hS589 := Fx_f hSx hF580 (by decide)
    have hV590 := Fx_f hVx hF580 (by decide)
    have sf591 : ND A575 (n) (27) (sa1) (0) (0) (0) (0) (0) := ND_ag (by omega) (Ag_fr hF580 (by decide)) iv_12
    have ec592 : ecn A575 (G574 31) = ec1 := (ecn_f (hF580.2 15 rfl) (hF580.1 31 rfl)).trans ex_ec1
    have bat2_576 : (0 : Int) ≤ at2_576 ∧ at2_576 ≤ 3002 := e581 ▸ hW579.1 10
    have ztk2_577 := tz_b tk2_577
    have btk2_577 : (0 : Int) ≤ tk2_577 ∧ tk2_577 ≤ 5 := e582 ▸ hW579.1 11
    have bfk2_578 : (0 : Int) ≤ fk2_578 ∧ fk2_578 ≤ 6 := e583 ▸ hW579.1 16
    refine .inl ⟨rfl, ?_⟩
    rcases q586 with ⟨a593, a594, a595, a596⟩ | ⟨a597, a598, a599, a600⟩
    · have _q : True := trivial
      have z601 := tz_f (tk2_577)
      exact c_readSeq_w_at_96p (X := X) (k := k) (hP := hP) (d := d) (Vs := Vs) (sb := sb) (pb := pb) (hvb := hvb) (c0 := c0) (c1 := c1) (G := G) (A := A) (T := T) (lv := lv) (ln := ln) (li := li) (at0 := at0) (fk := fk) (nd := nd) (sy := sy) (na := na) (vi := vi) (le := le) (op0 := op0) (tk0 := tk0) (ec := ec) (hd := hd) (hW := hW) (e_ln := e_ln) (e_li := e_li) (e_at0 := e_at0) (e_fk := e_fk) (e_nd := e_nd) (e_sy := e_sy) (e_na := e_na) (e_vi := e_vi) (e_le := e_le) (e_op0 := e_op0) (e_tk0 := e_tk0) (e_ec := e_ec) (i_LT := i_LT) (i_SV := i_SV) (i_PQ := i_PQ) (h_lv := h_lv) (p_0 := p_0) (p_1 := p_1) (p_2 := p_2) (p_3 := p_3) (p_4 := p_4) (p_5 := p_5) (p_6 := p_6) (p_7 := p_7) (p_8 := p_8) (p_9 := p_9) (p_10 := p_10) L G574 A575 (n) (at2_576) (tk2_577) (fk2_578) (nd1) (op1) (sy1) (na1) (ec1) gL_0 gL_1 gL_2 hW579 hF587 hP588 hS589 hV590 ((e581)) ((e582)) ((e583)) (((hF580.1 31 rfl).trans (ex_nd1))) (((hF580.1 15 rfl).trans (ex_op1))) (((hF580.1 19 rfl).trans (ex_sy1))) (((hF580.1 28 rfl).trans (ex_na1))) (ec592) (((hF580.1 9 rfl).trans (fx_9))) (((hF580.1 29 rfl).trans (fx_29))) (by omega) (by omega) (by omega) (by omega) (by omega) (by omega) (by omega) (by omega) (by omega)
    · have _q : True := trivial
      exfalso
      omega
set_option maxRecDepth 20000 in
set_option maxHeartbeats 4000000 in
theorem c_readSeq_w {X : jX} {k : Nat} (hP : RPw X k) {dd : Nat} {Vs : Nat → Prop} {sb pb : Int} (hvb : VB Vs sb) {c0 c1 : jC} {G : Nat → Int} {A : Nat → Nat → Int} {T : jH} {lv : Int} {ln li at0 fk nd sy na vi le op0 tk0 ec : Int} (hd : 8 * k + 82 ≤ dd) (hW : Wk G A) (e_ln : G 9 = ln) (e_li : G 3 = li) (e_at0 : G 10 = at0) (e_fk : G 16 = fk) (e_nd : G 31 = nd) (e_sy : G 19 = sy) (e_na : G 28 = na) (e_vi : G 29 = vi) (e_le : A 4 (ln).toNat = le) (e_op0 : G 15 = op0) (e_tk0 : G 11 = tk0) (e_ec : ecn A (G 31) = ec) (i_LT : LT G A) (i_SV : SV Vs sb G A) (i_PQ : PQ Vs sb pb G A) (h_lv : (-2147483648 : Int) ≤ lv ∧ lv ≤ 2147483647) (p_0 : 0 ≤ lv ∧ lv ≤ 15) (p_1 : 18 - lv ≤ ((k + 1 : Nat) : Int)) (p_2 : fk = 0) (p_3 : ln < li) (p_4 : at0 ≤ le) (p_5 : op0 = 0) (p_6 : nd ≤ 2 * at0 - tz tk0 + 30) (p_7 : sy ≤ na + 2) (p_8 : vi ≤ sy) (p_9 : sb = sy) (p_10 : 1 ≤ tk0) : wk X dd 297 [.ref 66, .int (i32 lv)] (rV c0 c1 G A T) (fun o V' => ∃ (G' : Nat → Int) (A' : Nat → Nat → Int) (r : Int) (ln2 : Int) (at2 : Int) (fk2 : Int) (nd2 : Int) (sy2 : Int) (na2 : Int) (vi2 : Int) (lf2 : Int) (ec2 : Int), V' = rV c0 c1 G' A' T ∧ o = .inl (some (.int (i32 r))) ∧ Wk G' A' ∧ Fr [9, 10, 11, 12, 13, 14, 15, 16, 17, 18, 19, 28, 29, 31] [6, 7, 8, 9, 10, 11, 12, 14, 15, 16, 17, 18, 19, 20, 21, 22, 23, 24, 28] G A G' A' ∧ Pf nd A A' ∧ Fx sr (sy) A A' ∧ Fx [14] (vi) A A' ∧ ((-2147483648 : Int) ≤ r ∧ r ≤ 2147483647) ∧ G' 9 = ln2 ∧ G' 10 = at2 ∧ G' 16 = fk2 ∧ G' 31 = nd2 ∧ G' 19 = sy2 ∧ G' 28 = na2 ∧ G' 29 = vi2 ∧ A' 3 (ln2).toNat = lf2 ∧ ecn A' (G' 31) = ec2 ∧ (at0 ≤ at2) ∧ (nd ≤ nd2) ∧ (sy ≤ sy2) ∧ (sy2 ≤ na2 + 2) ∧ (vi ≤ vi2) ∧ (vi2 ≤ vi + 1) ∧ (0 ≤ r) ∧ (r ≤ 6999) ∧ (ln ≤ ln2) ∧ (ln2 ≤ li) ∧ (((1 ≤ fk2) ∧ (nd2 - nd ≤ 2 * at2 - (2 * at0 - tz tk0) + 14)) ∨ ((fk2 = 0) ∧ (vi2 = vi) ∧ (ln < ln2) ∧ (nd2 - nd ≤ 2 * at2 - (2 * at0 - tz tk0)) ∧ (at2 < lf2 ∨ li ≤ ln2) ∧ (nd ≤ r) ∧ (r < nd2) ∧ (wSt A' (sy2) pb (wP A' (sy2) pb (k)) (Vs) (r) (nd) (nd2) (sy) (sy2)) ∧ (NX A' (r)) ∧ (nd2 - nd + 5 * (ec2 - ec) ≤ 2 * at2 - (2 * at0 - tz tk0)) ∧ (nd + 5 * ec ≤ r)))) := by
  obtain ⟨d, rfl⟩ : ∃ d, dd = d + 1 := ⟨dd - 1, by omega⟩
  refine wk_of (e := jm297) rfl (Nat.le_of_ble_eq_true rfl) ?_
  show wj X d jm297 (0, [(0, .ref 66), (1, .int (i32 (lv)))], [], rV c0 c1 G A T) _
  have hF0 : Fr [9, 10, 11, 12, 13, 14, 15, 16, 17, 18, 19, 28, 29, 31] [6, 7, 8, 9, 10, 11, 12, 14, 15, 16, 17, 18, 19, 20, 21, 22, 23, 24, 28] G A G A := Fr_rf
  have hP0 : Pf nd A A := Pf_rf
  have hS0 : Fx sr (sy) A A := Fx_rf
  have hV0 : Fx [14] (vi) A A := Fx_rf
  have b_ln : (0 : Int) ≤ ln ∧ ln ≤ 3000 := e_ln ▸ hW.1 9
  have b_li : (0 : Int) ≤ li ∧ li ≤ 3000 := e_li ▸ hW.1 3
  have b_at0 : (0 : Int) ≤ at0 ∧ at0 ≤ 3002 := e_at0 ▸ hW.1 10
  have b_fk : (0 : Int) ≤ fk ∧ fk ≤ 6 := e_fk ▸ hW.1 16
  have b_nd : (0 : Int) ≤ nd ∧ nd ≤ 6999 := e_nd ▸ hW.1 31
  have b_sy : (0 : Int) ≤ sy ∧ sy ≤ 202 := e_sy ▸ hW.1 19
  have b_na : (0 : Int) ≤ na ∧ na ≤ 200 := e_na ▸ hW.1 28
  have b_vi : (0 : Int) ≤ vi ∧ vi ≤ 202 := e_vi ▸ hW.1 29
  have b_le : (0 : Int) ≤ le ∧ le ≤ 3000 := e_le ▸ hW.2 4 _
  have b_op0 : (-2147483648 : Int) ≤ op0 ∧ op0 ≤ 2147483647 := e_op0 ▸ hW.1 15
  have z_tk0 := tz_f tk0
  have b_tk0 : (0 : Int) ≤ tk0 ∧ tk0 ≤ 5 := e_tk0 ▸ hW.1 11
  refine jx_ld (pc' := 1) (l' := [(0, .ref 66), (1, .int (i32 (lv)))]) (st' := [.ref 66]) rfl (jl_aloadn rfl) ?_
  refine jx_vr (pc' := 4) (as := []) (st := []) rfl rfl rfl rfl ⟨rfl, rfl, Nat.le_of_ble_eq_true rfl⟩ rfl rfl (c_next (dd := d) (hd := by omega) (hW := hW)  (ln := ln) (e_ln := show G 9 = ln from (e_ln)) (le := le) (e_le := show A 4 (ln).toNat = le from (e_le)) (at0 := at0) (e_at0 := show G 10 = at0 from (e_at0))    (p_0 := by omega)) (fun o V' hq => ?_)
  obtain ⟨G602, A603, at2_604, tk2_605, rfl, rfl, hW606, hF607, e608, e609, p610, p611, p612, -⟩ := hq
  have hF614 := Fr_tr hF0 hF607 (Fr_sub (by decide)) (Fr_sub (by decide))
  have hP615 := Pf_f hP0 hF607 (by decide)
  have hS616 := Fx_f hS0 hF607 (by decide)
  have hV617 := Fx_f hV0 hF607 (by decide)
  have ec618 : ecn A603 (G602 31) = ec := (ecn_f (hF607.2 15 rfl) (hF607.1 31 rfl)).trans e_ec
  have bat2_604 : (0 : Int) ≤ at2_604 ∧ at2_604 ≤ 3002 := e608 ▸ hW606.1 10
  have ztk2_605 := tz_b tk2_605
  have btk2_605 : (0 : Int) ≤ tk2_605 ∧ tk2_605 ≤ 5 := e609 ▸ hW606.1 11
  refine .inl ⟨rfl, ?_⟩
  refine jx_ld (pc' := 5) (l' := [(0, .ref 66), (1, .int (i32 (lv)))]) (st' := [.ref 66]) rfl (jl_aloadn rfl) ?_
  have z619 := tz_f (tk2_605)
  refine jr_get (pc' := 8) (i := 11) (v := .int (i32 (tk2_605))) rfl rfl (by decide) (rFv_eq (by decide) (show G602 11 = tk2_605 from (e609))) rfl ?_
  refine jx_if_ne (pc' := 11) (tg := 38) rfl rfl rfl (Int.le_trans (by decide : (-2147483648 : Int) ≤ 0) btk2_605.1) (Int.le_trans btk2_605.2 (by decide : (5 : Int) ≤ 2147483647)) (fun h620 => ?_) (fun h620 => ?_)
  · have _q := h620
    refine jx_ld (pc' := 39) (l' := [(0, .ref 66), (1, .int (i32 (lv)))]) (st' := [.ref 66]) rfl (jl_aloadn rfl) ?_
    have z621 := tz_f (tk2_605)
    refine jr_get (pc' := 42) (i := 11) (v := .int (i32 (tk2_605))) rfl rfl (by decide) (rFv_eq (by decide) (show G602 11 = tk2_605 from (e609))) rfl ?_
    refine jx_ar (pc' := 43) (st' := [.int (i32 (1)), .int (i32 (tk2_605))]) rfl rfl rfl rfl ?_
    refine jx_icmp_eq (pc' := 46) (tg := 57) rfl rfl rfl (Int.le_trans (by decide : (-2147483648 : Int) ≤ 0) btk2_605.1) (Int.le_trans btk2_605.2 (by decide : (5 : Int) ≤ 2147483647)) (by decide) (by decide) (fun h622 => ?_) (fun h622 => ?_)
    · have _q := h622
      refine jx_ld (pc' := 58) (l' := [(0, .ref 66), (1, .int (i32 (lv)))]) (st' := [.ref 66]) rfl (jl_aloadn rfl) ?_
      refine jx_ar (pc' := 60) (st' := [.int (i32 (27)), .ref 66]) rfl rfl rfl rfl ?_
      refine jx_ar (pc' := 61) (st' := [.int (i32 (0)), .int (i32 (27)), .ref 66]) rfl rfl rfl rfl ?_
      refine jx_ar (pc' := 62) (st' := [.int (i32 (0)), .int (i32 (0)), .int (i32 (27)), .ref 66]) rfl rfl rfl rfl ?_
      refine jx_ar (pc' := 63) (st' := [.int (i32 (0)), .int (i32 (0)), .int (i32 (0)), .int (i32 (27)), .ref 66]) rfl rfl rfl rfl ?_
      refine jx_ar (pc' := 64) (st' := [.int (i32 (0)), .int (i32 (0)), .int (i32 (0)), .int (i32 (0)), .int (i32 (27)), .ref 66]) rfl rfl rfl rfl ?_
      refine jx_vr (pc' := 67) (as := [.int (i32 (27)), .int (i32 (0)), .int (i32 (0)), .int (i32 (0)), .int (i32 (0))]) (st := []) rfl rfl rfl rfl ⟨rfl, rfl, Nat.le_of_ble_eq_true rfl⟩ rfl rfl (c_node_o (dd := d) (hd := by omega) (hW := hW606) (kind := 27) (a := 0) (b := 0) (c := 0) (e := 0) (nd := nd) (e_nd := show G602 31 = nd from ((hF607.1 31 rfl).trans (e_nd))) (ec := ec) (e_ec := show ecn A603 (G602 31) = ec from ec618)  (h_kind := ⟨(by decide), (by decide)⟩) (h_a := ⟨(by decide), (by decide)⟩) (h_b := ⟨(by decide), (by decide)⟩) (h_c := ⟨(by decide), (by decide)⟩) (h_e := ⟨(by decide), (by decide)⟩)  (p_0 := by omega) (p_1 := by omega) (p_2 := by omega)) (fun o V' hq => ?_)
      obtain ⟨G623, A624, nd2_625, ec2_626, rfl, rfl, hW627, hF628, hQ629, e630, e631, p632, p633, p634, -⟩ := hq
      have hF636 := Fr_tr hF614 hF628 (Fr_sub (by decide)) (Fr_sub (by decide))
      have hP637 := Pf_tr hP615 hQ629 (by omega)
      have hS638 := Fx_f hS616 hF628 (by decide)
      have hV639 := Fx_f hV617 hF628 (by decide)
      have bnd2_625 : (0 : Int) ≤ nd2_625 ∧ nd2_625 ≤ 6999 := e630 ▸ hW627.1 31
      refine .inr ⟨_, rfl, ?_⟩
      refine jx_ld (pc' := 68) (l' := jSto1 [(0, .ref 66), (1, .int (i32 (lv)))] 2 (.int (i32 (nd)))) (st' := []) rfl rfl ?_
      obtain ⟨L640, eL640⟩ : ∃ q, q = jSto1 [(0, .ref 66), (1, .int (i32 (lv)))] 2 (.int (i32 (nd))) := ⟨_, rfl⟩
      rw [← eL640]
      have gL640_0 : jGet L640 0 = some (.ref 66) := eL640 ▸ jg_ne (by decide) (rfl : jGet [(0, .ref 66), (1, .int (i32 (lv)))] 0 = some (.ref 66)) rfl
      have gL640_1 : jGet L640 1 = some (.int (i32 (lv))) := eL640 ▸ jg_ne (by decide) (rfl : jGet [(0, .ref 66), (1, .int (i32 (lv)))] 1 = some (.int (i32 (lv)))) rfl
      have gL640_2 : jGet L640 2 = some (.int (i32 (nd))) := eL640 ▸ jg_eq
      refine jx_ld (pc' := 69) (l' := L640) (st' := [.ref 66]) rfl (jl_aloadn gL640_0) ?_
      refine jr_get (pc' := 72) (i := 34) (v := .ref 84) rfl rfl (by decide) rfl rfl ?_
      refine jx_ld (pc' := 73) (l' := L640) (st' := [.int (i32 (nd)), .ref 84]) rfl (jl_iloadn gL640_2) ?_
      refine jx_ld (pc' := 74) (l' := L640) (st' := [.ref 66, .int (i32 (nd)), .ref 84]) rfl (jl_aloadn gL640_0) ?_
      refine jx_ar (pc' := 76) (st' := [.int (i32 (9)), .ref 66, .int (i32 (nd)), .ref 84]) rfl rfl rfl rfl ?_
      refine jx_ar (pc' := 77) (st' := [.int (i32 (2)), .int (i32 (9)), .ref 66, .int (i32 (nd)), .ref 84]) rfl rfl rfl rfl ?_
      refine jx_vr (pc' := 80) (as := [.int (i32 (9)), .int (i32 (2))]) (st := [.int (i32 (nd)), .ref 84]) rfl rfl rfl rfl ⟨rfl, rfl, Nat.le_of_ble_eq_true rfl⟩ rfl rfl (c_newName (dd := d) (hd := by omega) (hW := hW627) (kind := 9) (many := 2) (sy := sy) (e_sy := show G623 19 = sy from ((hF628.1 19 rfl).trans ((hF607.1 19 rfl).trans (e_sy)))) (na := na) (e_na := show G623 28 = na from ((hF628.1 28 rfl).trans ((hF607.1 28 rfl).trans (e_na)))) (fk := fk) (e_fk := show G623 16 = fk from ((hF628.1 16 rfl).trans ((hF607.1 16 rfl).trans (e_fk))))  (h_kind := ⟨(by decide), (by decide)⟩) (h_many := ⟨(by decide), (by decide)⟩)  (p_0 := by omega) (p_1 := by omega)) (fun o V' hq => ?_)
      obtain ⟨G641, A642, r643, sy2_644, na2_645, fk2_646, yk2_647, rfl, rfl, hW648, hF649, hQ650, b651, e652, e653, e654, e655, q656⟩ := hq
      have hF657 := Fr_tr hF636 hF649 (Fr_sub (by decide)) (Fr_sub (by decide))
      have hP658 := Pf_f hP637 hF649 (by decide)
      have hS659 := Fx_tr hS638 hQ650 (by omega)
      have hV660 := Fx_f hV639 hF649 (by decide)
      have sf661 : ND A642 (nd) (27) (0) (0) (0) (0) (0) (0) := ND_ag (by omega) (Ag_fr hF649 (by decide)) p634
      have ec662 : ecn A642 (G641 31) = ec2_626 := (ecn_f (hF649.2 15 rfl) (hF649.1 31 rfl)).trans e631
      have bsy2_644 : (0 : Int) ≤ sy2_644 ∧ sy2_644 ≤ 202 := e652 ▸ hW648.1 19
      have bna2_645 : (0 : Int) ≤ na2_645 ∧ na2_645 ≤ 200 := e653 ▸ hW648.1 28
      have bfk2_646 : (0 : Int) ≤ fk2_646 ∧ fk2_646 ≤ 6 := e654 ▸ hW648.1 16
      have byk2_647 : (0 : Int) ≤ yk2_647 ∧ yk2_647 ≤ 14 := e655 ▸ hW648.2 7 _
      refine .inr ⟨_, rfl, ?_⟩
      rcases q656 with ⟨a669, a663, a664, a665, a666, a667, a668⟩ | ⟨rfl, a670, a671, a672⟩
      · have _q : True := trivial
        rw [a669]
        refine jr_st (pc' := 81) (i := 17) (m := 7000) (z := nd) (y := sy) rfl (by decide) rfl (by decide) (by omega) (by omega) rfl ?_
        have hW674 : Wk G641 (uA A642 17 (nd).toNat (sy)) := Wk_a hW648 (show (-2147483648 : Int) ≤ sy by omega) (show sy ≤ (2147483647 : Int) by omega)
        have hF675 := Fr_a (z := sy) (k := 17) (n := (nd).toNat) hF657 (by decide)
        obtain ⟨A673, eA673⟩ : ∃ q, q = uA A642 17 (nd).toNat (sy) := ⟨_, rfl⟩
        rw [← eA673]
        rw [← eA673] at hW674 hF675
        have q676 : A673 17 (nd).toNat = sy := by rw [eA673]; exact uA_eq
        have hP677 : Pf nd A A673 := eA673 ▸ Pf_a hP658 (z := nd) (by omega) (by omega)
        have hS678 : Fx sr (sy) A A673 := eA673 ▸ Fx_n hS659 rfl
        have hV679 : Fx [14] (vi) A A673 := eA673 ▸ Fx_n hV660 rfl
        have sf680 : ND A673 (nd) (27) (sy) (0) (0) (0) (0) (0) := ND_a eA673 sf661
        have sf681 : YD A673 (sy) (9) (2) := YD_fx (by omega) (by omega) (Sg_ne (sb := sy + 1) eA673 rfl) a668
        have ec682 : ecn A673 (G641 31) = ec2_626 := (ecn_e ((congrFun eA673 15).trans (uA_ne (by decide)))).trans ec662
        refine jx_ld (pc' := 82) (l' := L640) (st' := [.ref 66]) rfl (jl_aloadn gL640_0) ?_
        refine jx_ar (pc' := 83) (st' := [.int (i32 (1)), .ref 66]) rfl rfl rfl rfl ?_
        refine jx_vr (pc' := 86) (as := [.int (i32 (1))]) (st := []) rfl rfl rfl rfl ⟨rfl, rfl, Nat.le_of_ble_eq_true rfl⟩ rfl rfl (c_need (dd := d) (hd := by omega) (hW := hW674) (g := 1) (ln := ln) (e_ln := show G641 9 = ln from ((hF649.1 9 rfl).trans ((hF628.1 9 rfl).trans ((hF607.1 9 rfl).trans (e_ln))))) (le := le) (e_le := show A673 4 (ln).toNat = le from (congrFun (((congrFun eA673 4).trans (uA_ne (by decide))).trans ((hF649.2 4 rfl).trans ((hF628.2 4 rfl).trans (hF607.2 4 rfl)))) _).trans (e_le)) (at0 := at2_604) (e_at0 := show G641 10 = at2_604 from ((hF649.1 10 rfl).trans ((hF628.1 10 rfl).trans (e608)))) (fk := fk2_646) (e_fk := show G641 16 = fk2_646 from (e654)) (tk0 := tk2_605) (e_tk0 := show G641 11 = tk2_605 from ((hF649.1 11 rfl).trans ((hF628.1 11 rfl).trans (e609))))  (h_g := ⟨(by decide), (by decide)⟩)  (p_0 := by omega)) (fun o V' hq => ?_)
        obtain ⟨G683, A684, at2_685, tk2_686, fk2_687, rfl, rfl, hW688, hF689, e690, e691, e692, p693, p694, q695⟩ := hq
        have hF696 := Fr_tr hF675 hF689 (Fr_sub (by decide)) (Fr_sub (by decide))
        have hP697 := Pf_f hP677 hF689 (by decide)
        have hS698 := Fx_f hS678 hF689 (by decide)
        have hV699 := Fx_f hV679 hF689 (by decide)
        have sf700 : ND A684 (nd) (27) (sy) (0) (0) (0) (0) (0) := ND_ag (by omega) (Ag_fr hF689 (by decide)) sf680
        have sf701 : YD A684 (sy) (9) (2) := YD_fx (by omega) (by omega) (Sg_fr (sb := sy + 1) hF689 (by decide)) sf681
        have ec702 : ecn A684 (G683 31) = ec2_626 := (ecn_f (hF689.2 15 rfl) (hF689.1 31 rfl)).trans ec682
        have bat2_685 : (0 : Int) ≤ at2_685 ∧ at2_685 ≤ 3002 := e690 ▸ hW688.1 10
        have ztk2_686 := tz_b tk2_686
        have btk2_686 : (0 : Int) ≤ tk2_686 ∧ tk2_686 ≤ 5 := e691 ▸ hW688.1 11
        have bfk2_687 : (0 : Int) ≤ fk2_687 ∧ fk2_687 ≤ 6 := e692 ▸ hW688.1 16
        refine .inl ⟨rfl, ?_⟩
        rcases q695 with ⟨a703, a704, a705, a706⟩ | ⟨a707, a708, a709, a710⟩
        · have _q : True := trivial
          have z711 := tz_f (tk2_686)
          exact c_readSeq_w_at_86p (X := X) (k := k) (hP := hP) (d := d) (Vs := Vs) (sb := sb) (pb := pb) (hvb := hvb) (c0 := c0) (c1 := c1) (G := G) (A := A) (T := T) (lv := lv) (ln := ln) (li := li) (at0 := at0) (fk := fk) (nd := nd) (sy := sy) (na := na) (vi := vi) (le := le) (op0 := op0) (tk0 := tk0) (ec := ec) (hd := hd) (hW := hW) (e_ln := e_ln) (e_li := e_li) (e_at0 := e_at0) (e_fk := e_fk) (e_nd := e_nd) (e_sy := e_sy) (e_na := e_na) (e_vi := e_vi) (e_le := e_le) (e_op0 := e_op0) (e_tk0 := e_tk0) (e_ec := e_ec) (i_LT := i_LT) (i_SV := i_SV) (i_PQ := i_PQ) (h_lv := h_lv) (p_0 := p_0) (p_1 := p_1) (p_2 := p_2) (p_3 := p_3) (p_4 := p_4) (p_5 := p_5) (p_6 := p_6) (p_7 := p_7) (p_8 := p_8) (p_9 := p_9) (p_10 := p_10) L640 G683 A684 (nd) (at2_685) (tk2_686) (fk2_687) (nd2_625) (op0) (sy2_644) (na2_645) (ec2_626) gL640_0 gL640_1 gL640_2 hW688 hF696 hP697 hS698 hV699 ((e690)) ((e691)) ((e692)) (((hF689.1 31 rfl).trans ((hF649.1 31 rfl).trans (e630)))) (((hF689.1 15 rfl).trans ((hF649.1 15 rfl).trans ((hF628.1 15 rfl).trans ((hF607.1 15 rfl).trans (e_op0)))))) (((hF689.1 19 rfl).trans (e652))) (((hF689.1 28 rfl).trans (e653))) (ec702) (((hF689.1 9 rfl).trans ((hF649.1 9 rfl).trans ((hF628.1 9 rfl).trans ((hF607.1 9 rfl).trans (e_ln)))))) (((hF689.1 29 rfl).trans ((hF649.1 29 rfl).trans ((hF628.1 29 rfl).trans ((hF607.1 29 rfl).trans (e_vi)))))) (by omega) (by omega) (by omega) (by omega) (by omega) (by omega) (by omega) (by omega) (by omega)
        · have _q : True := trivial
          have z712 := tz_f (tk2_686)
          exact c_readSeq_w_at_86 (X := X) (k := k) (hP := hP) (d := d) (Vs := Vs) (sb := sb) (pb := pb) (hvb := hvb) (c0 := c0) (c1 := c1) (G := G) (A := A) (T := T) (lv := lv) (ln := ln) (li := li) (at0 := at0) (fk := fk) (nd := nd) (sy := sy) (na := na) (vi := vi) (le := le) (op0 := op0) (tk0 := tk0) (ec := ec) (hd := hd) (hW := hW) (e_ln := e_ln) (e_li := e_li) (e_at0 := e_at0) (e_fk := e_fk) (e_nd := e_nd) (e_sy := e_sy) (e_na := e_na) (e_vi := e_vi) (e_le := e_le) (e_op0 := e_op0) (e_tk0 := e_tk0) (e_ec := e_ec) (i_LT := i_LT) (i_SV := i_SV) (i_PQ := i_PQ) (h_lv := h_lv) (p_0 := p_0) (p_1 := p_1) (p_2 := p_2) (p_3 := p_3) (p_4 := p_4) (p_5 := p_5) (p_6 := p_6) (p_7 := p_7) (p_8 := p_8) (p_9 := p_9) (p_10 := p_10) L640 G683 A684 (nd) (at2_685) (tk2_686) (fk2_687) (nd2_625) (op0) (sy2_644) (na2_645) (sy) (yk2_647) (ec2_626) gL640_0 gL640_1 gL640_2 hW688 hF696 hP697 hS698 hV699 ((e690)) ((e691)) ((e692)) (((hF689.1 31 rfl).trans ((hF649.1 31 rfl).trans (e630)))) (((hF689.1 15 rfl).trans ((hF649.1 15 rfl).trans ((hF628.1 15 rfl).trans ((hF607.1 15 rfl).trans (e_op0)))))) (((hF689.1 19 rfl).trans (e652))) (((hF689.1 28 rfl).trans (e653))) ((congrFun (hF689.2 17 rfl) _).trans (q676)) ((congrFun ((hF689.2 7 rfl).trans ((congrFun eA673 7).trans (uA_ne (by decide)))) _).trans (e655)) (ec702) (((hF689.1 9 rfl).trans ((hF649.1 9 rfl).trans ((hF628.1 9 rfl).trans ((hF607.1 9 rfl).trans (e_ln)))))) (((hF689.1 29 rfl).trans ((hF649.1 29 rfl).trans ((hF628.1 29 rfl).trans ((hF607.1 29 rfl).trans (e_vi)))))) (by omega) (by omega) (by omega) (by omega) (by omega) (by omega) (by omega) (by omega) (by omega) (by omega) (by omega) (by omega) (by omega) (sf700) (by omega)
      · have _q : True := trivial
        refine jr_st (pc' := 81) (i := 17) (m := 7000) (z := nd) (y := 0) rfl (by decide) rfl (by decide) (by omega) (by omega) rfl ?_
        have hW714 : Wk G641 (uA A642 17 (nd).toNat (0)) := Wk_a hW648 (show (-2147483648 : Int) ≤ 0 by omega) (show 0 ≤ (2147483647 : Int) by omega)
        have hF715 := Fr_a (z := 0) (k := 17) (n := (nd).toNat) hF657 (by decide)
        obtain ⟨A713, eA713⟩ : ∃ q, q = uA A642 17 (nd).toNat (0) := ⟨_, rfl⟩
        rw [← eA713]
        rw [← eA713] at hW714 hF715
        have q716 : A713 17 (nd).toNat = 0 := by rw [eA713]; exact uA_eq
        have hP717 : Pf nd A A713 := eA713 ▸ Pf_a hP658 (z := nd) (by omega) (by omega)
        have hS718 : Fx sr (sy) A A713 := eA713 ▸ Fx_n hS659 rfl
        have hV719 : Fx [14] (vi) A A713 := eA713 ▸ Fx_n hV660 rfl
        have sf720 : ND A713 (nd) (27) (0) (0) (0) (0) (0) (0) := ND_a eA713 sf661
        have ec721 : ecn A713 (G641 31) = ec2_626 := (ecn_e ((congrFun eA713 15).trans (uA_ne (by decide)))).trans ec662
        refine jx_ld (pc' := 82) (l' := L640) (st' := [.ref 66]) rfl (jl_aloadn gL640_0) ?_
        refine jx_ar (pc' := 83) (st' := [.int (i32 (1)), .ref 66]) rfl rfl rfl rfl ?_
        refine jx_vr (pc' := 86) (as := [.int (i32 (1))]) (st := []) rfl rfl rfl rfl ⟨rfl, rfl, Nat.le_of_ble_eq_true rfl⟩ rfl rfl (c_need (dd := d) (hd := by omega) (hW := hW714) (g := 1) (ln := ln) (e_ln := show G641 9 = ln from ((hF649.1 9 rfl).trans ((hF628.1 9 rfl).trans ((hF607.1 9 rfl).trans (e_ln))))) (le := le) (e_le := show A713 4 (ln).toNat = le from (congrFun (((congrFun eA713 4).trans (uA_ne (by decide))).trans ((hF649.2 4 rfl).trans ((hF628.2 4 rfl).trans (hF607.2 4 rfl)))) _).trans (e_le)) (at0 := at2_604) (e_at0 := show G641 10 = at2_604 from ((hF649.1 10 rfl).trans ((hF628.1 10 rfl).trans (e608)))) (fk := fk2_646) (e_fk := show G641 16 = fk2_646 from (e654)) (tk0 := tk2_605) (e_tk0 := show G641 11 = tk2_605 from ((hF649.1 11 rfl).trans ((hF628.1 11 rfl).trans (e609))))  (h_g := ⟨(by decide), (by decide)⟩)  (p_0 := by omega)) (fun o V' hq => ?_)
        obtain ⟨G722, A723, at2_724, tk2_725, fk2_726, rfl, rfl, hW727, hF728, e729, e730, e731, p732, p733, q734⟩ := hq
        have hF735 := Fr_tr hF715 hF728 (Fr_sub (by decide)) (Fr_sub (by decide))
        have hP736 := Pf_f hP717 hF728 (by decide)
        have hS737 := Fx_f hS718 hF728 (by decide)
        have hV738 := Fx_f hV719 hF728 (by decide)
        have sf739 : ND A723 (nd) (27) (0) (0) (0) (0) (0) (0) := ND_ag (by omega) (Ag_fr hF728 (by decide)) sf720
        have ec740 : ecn A723 (G722 31) = ec2_626 := (ecn_f (hF728.2 15 rfl) (hF728.1 31 rfl)).trans ec721
        have bat2_724 : (0 : Int) ≤ at2_724 ∧ at2_724 ≤ 3002 := e729 ▸ hW727.1 10
        have ztk2_725 := tz_b tk2_725
        have btk2_725 : (0 : Int) ≤ tk2_725 ∧ tk2_725 ≤ 5 := e730 ▸ hW727.1 11
        have bfk2_726 : (0 : Int) ≤ fk2_726 ∧ fk2_726 ≤ 6 := e731 ▸ hW727.1 16
        refine .inl ⟨rfl, ?_⟩
        rcases q734 with ⟨a741, a742, a743, a744⟩ | ⟨a745, a746, a747, a748⟩
        · have _q : True := trivial
          have z749 := tz_f (tk2_725)
          exact c_readSeq_w_at_86p (X := X) (k := k) (hP := hP) (d := d) (Vs := Vs) (sb := sb) (pb := pb) (hvb := hvb) (c0 := c0) (c1 := c1) (G := G) (A := A) (T := T) (lv := lv) (ln := ln) (li := li) (at0 := at0) (fk := fk) (nd := nd) (sy := sy) (na := na) (vi := vi) (le := le) (op0 := op0) (tk0 := tk0) (ec := ec) (hd := hd) (hW := hW) (e_ln := e_ln) (e_li := e_li) (e_at0 := e_at0) (e_fk := e_fk) (e_nd := e_nd) (e_sy := e_sy) (e_na := e_na) (e_vi := e_vi) (e_le := e_le) (e_op0 := e_op0) (e_tk0 := e_tk0) (e_ec := e_ec) (i_LT := i_LT) (i_SV := i_SV) (i_PQ := i_PQ) (h_lv := h_lv) (p_0 := p_0) (p_1 := p_1) (p_2 := p_2) (p_3 := p_3) (p_4 := p_4) (p_5 := p_5) (p_6 := p_6) (p_7 := p_7) (p_8 := p_8) (p_9 := p_9) (p_10 := p_10) L640 G722 A723 (nd) (at2_724) (tk2_725) (fk2_726) (nd2_625) (op0) (sy2_644) (na2_645) (ec2_626) gL640_0 gL640_1 gL640_2 hW727 hF735 hP736 hS737 hV738 ((e729)) ((e730)) ((e731)) (((hF728.1 31 rfl).trans ((hF649.1 31 rfl).trans (e630)))) (((hF728.1 15 rfl).trans ((hF649.1 15 rfl).trans ((hF628.1 15 rfl).trans ((hF607.1 15 rfl).trans (e_op0)))))) (((hF728.1 19 rfl).trans (e652))) (((hF728.1 28 rfl).trans (e653))) (ec740) (((hF728.1 9 rfl).trans ((hF649.1 9 rfl).trans ((hF628.1 9 rfl).trans ((hF607.1 9 rfl).trans (e_ln)))))) (((hF728.1 29 rfl).trans ((hF649.1 29 rfl).trans ((hF628.1 29 rfl).trans ((hF607.1 29 rfl).trans (e_vi)))))) (by omega) (by omega) (by omega) (by omega) (by omega) (by omega) (by omega) (by omega) (by omega)
        · have _q : True := trivial
          exfalso
          omega
    · have _q := h622
      refine jx_ld (pc' := 47) (l' := [(0, .ref 66), (1, .int (i32 (lv)))]) (st' := [.ref 66]) rfl (jl_aloadn rfl) ?_
      refine jx_ar (pc' := 48) (st' := [.int (i32 (1)), .ref 66]) rfl rfl rfl rfl ?_
      refine jx_ld (pc' := 49) (l' := [(0, .ref 66), (1, .int (i32 (lv)))]) (st' := [.ref 66, .int (i32 (1)), .ref 66]) rfl (jl_aloadn rfl) ?_
      have b750 : (-3000 : Int) ≤ G602 12 ∧ G602 12 ≤ 3002 := hW606.1 12
      refine jr_get (pc' := 52) (i := 12) (v := .int (i32 (G602 12))) rfl rfl (by decide) rfl rfl ?_
      refine jx_vr (pc' := 55) (as := [.int (i32 (1)), .int (i32 (G602 12))]) (st := []) rfl rfl rfl rfl ⟨rfl, rfl, Nat.le_of_ble_eq_true rfl⟩ rfl rfl (c_fail (dd := d) (hd := by omega) (hW := hW606) (kind := 1) (place := G602 12) (fk := fk) (e_fk := show G602 16 = fk from ((hF607.1 16 rfl).trans (e_fk)))  (h_kind := ⟨(by decide), (by decide)⟩) (h_place := ⟨(Int.le_trans (by decide : (-2147483648 : Int) ≤ -3000) b750.1), (Int.le_trans b750.2 (by decide : (3002 : Int) ≤ 2147483647))⟩)  (p_0 := by omega) (p_1 := by omega)) (fun o V' hq => ?_)
      obtain ⟨G751, A752, fk2_753, rfl, rfl, hW754, hF755, e756, p757, -⟩ := hq
      have hF759 := Fr_tr hF614 hF755 (Fr_sub (by decide)) (Fr_sub (by decide))
      have hP760 := Pf_f hP615 hF755 (by decide)
      have hS761 := Fx_f hS616 hF755 (by decide)
      have hV762 := Fx_f hV617 hF755 (by decide)
      have ec763 : ecn A752 (G751 31) = ec := (ecn_f (hF755.2 15 rfl) (hF755.1 31 rfl)).trans ec618
      have bfk2_753 : (0 : Int) ≤ fk2_753 ∧ fk2_753 ≤ 6 := e756 ▸ hW754.1 16
      refine .inl ⟨rfl, ?_⟩
      refine jx_ar (pc' := 56) (st' := [.int (i32 (0))]) rfl rfl rfl rfl ?_
      refine jx_rt (v := some (.int (i32 (0)))) rfl rfl rfl rfl rfl rfl ?_
      exact ⟨_, _, _, ln, at2_604, fk2_753, nd, sy, na, vi, A 3 (ln).toNat, ec, rfl, rfl, hW754, hF759, hP760, hS761, hV762, by omega, ((hF755.1 9 rfl).trans ((hF607.1 9 rfl).trans (e_ln))), ((hF755.1 10 rfl).trans (e608)), (e756), ((hF755.1 31 rfl).trans ((hF607.1 31 rfl).trans (e_nd))), ((hF755.1 19 rfl).trans ((hF607.1 19 rfl).trans (e_sy))), ((hF755.1 28 rfl).trans ((hF607.1 28 rfl).trans (e_na))), ((hF755.1 29 rfl).trans ((hF607.1 29 rfl).trans (e_vi))), (congrFun ((hF755.2 3 rfl).trans (hF607.2 3 rfl)) _), ec763, by omega, by omega, by omega, by omega, by omega, by omega, by omega, by omega, by omega, by omega, by first | exact Or.inl (⟨by omega, by omega⟩)⟩
  · have _q := h620
    refine jx_ld (pc' := 12) (l' := [(0, .ref 66), (1, .int (i32 (lv)))]) (st' := [.ref 66]) rfl (jl_aloadn rfl) ?_
    refine jx_ar (pc' := 14) (st' := [.int (i32 (26)), .ref 66]) rfl rfl rfl rfl ?_
    refine jx_ar (pc' := 15) (st' := [.int (i32 (0)), .int (i32 (26)), .ref 66]) rfl rfl rfl rfl ?_
    refine jx_ar (pc' := 16) (st' := [.int (i32 (0)), .int (i32 (0)), .int (i32 (26)), .ref 66]) rfl rfl rfl rfl ?_
    refine jx_ar (pc' := 17) (st' := [.int (i32 (0)), .int (i32 (0)), .int (i32 (0)), .int (i32 (26)), .ref 66]) rfl rfl rfl rfl ?_
    refine jx_ar (pc' := 18) (st' := [.int (i32 (0)), .int (i32 (0)), .int (i32 (0)), .int (i32 (0)), .int (i32 (26)), .ref 66]) rfl rfl rfl rfl ?_
    refine jx_vr (pc' := 21) (as := [.int (i32 (26)), .int (i32 (0)), .int (i32 (0)), .int (i32 (0)), .int (i32 (0))]) (st := []) rfl rfl rfl rfl ⟨rfl, rfl, Nat.le_of_ble_eq_true rfl⟩ rfl rfl (c_node_o (dd := d) (hd := by omega) (hW := hW606) (kind := 26) (a := 0) (b := 0) (c := 0) (e := 0) (nd := nd) (e_nd := show G602 31 = nd from ((hF607.1 31 rfl).trans (e_nd))) (ec := ec) (e_ec := show ecn A603 (G602 31) = ec from ec618)  (h_kind := ⟨(by decide), (by decide)⟩) (h_a := ⟨(by decide), (by decide)⟩) (h_b := ⟨(by decide), (by decide)⟩) (h_c := ⟨(by decide), (by decide)⟩) (h_e := ⟨(by decide), (by decide)⟩)  (p_0 := by omega) (p_1 := by omega) (p_2 := by omega)) (fun o V' hq => ?_)
    obtain ⟨G764, A765, nd2_766, ec2_767, rfl, rfl, hW768, hF769, hQ770, e771, e772, p773, p774, p775, -⟩ := hq
    have hF777 := Fr_tr hF614 hF769 (Fr_sub (by decide)) (Fr_sub (by decide))
    have hP778 := Pf_tr hP615 hQ770 (by omega)
    have hS779 := Fx_f hS616 hF769 (by decide)
    have hV780 := Fx_f hV617 hF769 (by decide)
    have bnd2_766 : (0 : Int) ≤ nd2_766 ∧ nd2_766 ≤ 6999 := e771 ▸ hW768.1 31
    refine .inr ⟨_, rfl, ?_⟩
    refine jx_ld (pc' := 22) (l' := jSto1 [(0, .ref 66), (1, .int (i32 (lv)))] 2 (.int (i32 (nd)))) (st' := []) rfl rfl ?_
    obtain ⟨L781, eL781⟩ : ∃ q, q = jSto1 [(0, .ref 66), (1, .int (i32 (lv)))] 2 (.int (i32 (nd))) := ⟨_, rfl⟩
    rw [← eL781]
    have gL781_0 : jGet L781 0 = some (.ref 66) := eL781 ▸ jg_ne (by decide) (rfl : jGet [(0, .ref 66), (1, .int (i32 (lv)))] 0 = some (.ref 66)) rfl
    have gL781_1 : jGet L781 1 = some (.int (i32 (lv))) := eL781 ▸ jg_ne (by decide) (rfl : jGet [(0, .ref 66), (1, .int (i32 (lv)))] 1 = some (.int (i32 (lv)))) rfl
    have gL781_2 : jGet L781 2 = some (.int (i32 (nd))) := eL781 ▸ jg_eq
    refine jx_ld (pc' := 23) (l' := L781) (st' := [.ref 66]) rfl (jl_aloadn gL781_0) ?_
    refine jx_vr (pc' := 26) (as := []) (st := []) rfl rfl rfl rfl ⟨rfl, rfl, Nat.le_of_ble_eq_true rfl⟩ rfl rfl (c_endLine (dd := d) (hd := by omega) (hW := hW768)  (ln := ln) (e_ln := show G764 9 = ln from ((hF769.1 9 rfl).trans ((hF607.1 9 rfl).trans (e_ln)))) (li := li) (e_li := show G764 3 = li from ((hF769.1 3 rfl).trans ((hF607.1 3 rfl).trans (e_li)))) (fk := fk) (e_fk := show G764 16 = fk from ((hF769.1 16 rfl).trans ((hF607.1 16 rfl).trans (e_fk)))) (tk0 := tk2_605) (e_tk0 := show G764 11 = tk2_605 from ((hF769.1 11 rfl).trans (e609)))    (p_0 := by omega)) (fun o V' hq => ?_)
    obtain ⟨G782, A783, ln2_784, fk2_785, rfl, rfl, hW786, hF787, e788, e789, q790⟩ := hq
    have hF791 := Fr_tr hF777 hF787 (Fr_sub (by decide)) (Fr_sub (by decide))
    have hP792 := Pf_f hP778 hF787 (by decide)
    have hS793 := Fx_f hS779 hF787 (by decide)
    have hV794 := Fx_f hV780 hF787 (by decide)
    have sf795 : ND A783 (nd) (26) (0) (0) (0) (0) (0) (0) := ND_ag (by omega) (Ag_fr hF787 (by decide)) p775
    have ec796 : ecn A783 (G782 31) = ec2_767 := (ecn_f (hF787.2 15 rfl) (hF787.1 31 rfl)).trans e772
    have bln2_784 : (0 : Int) ≤ ln2_784 ∧ ln2_784 ≤ 3000 := e788 ▸ hW786.1 9
    have bfk2_785 : (0 : Int) ≤ fk2_785 ∧ fk2_785 ≤ 6 := e789 ▸ hW786.1 16
    refine .inl ⟨rfl, ?_⟩
    rcases q790 with ⟨a797, a798, a799, a800, a801⟩ | ⟨a802, a803⟩
    · have _q : True := trivial
      have b804 : (0 : Int) ≤ A 3 (ln2_784).toNat ∧ A 3 (ln2_784).toNat ≤ 3000 := hW.2 3 _
      have lt805 : ln2_784 < li → le < A 3 (ln2_784).toNat := fun hh => LT_nx (LT_ext (((hF787.1 3 rfl).trans ((hF769.1 3 rfl).trans (hF607.1 3 rfl)))) (((hF787.2 3 rfl).trans ((hF769.2 3 rfl).trans (hF607.2 3 rfl)))) (((hF787.2 4 rfl).trans ((hF769.2 4 rfl).trans (hF607.2 4 rfl)))) i_LT) (show G782 3 = li from ((hF787.1 3 rfl).trans ((hF769.1 3 rfl).trans ((hF607.1 3 rfl).trans (e_li))))) (show A783 4 (ln).toNat = le from (congrFun ((hF787.2 4 rfl).trans ((hF769.2 4 rfl).trans (hF607.2 4 rfl))) _).trans (e_le)) (show A783 3 (ln2_784).toNat = A 3 (ln2_784).toNat from (congrFun ((hF787.2 3 rfl).trans ((hF769.2 3 rfl).trans (hF607.2 3 rfl))) _)) (show ln2_784 = ln + 1 by omega) (by omega) hh
      refine jx_ld (pc' := 27) (l' := L781) (st' := [.ref 66]) rfl (jl_aloadn gL781_0) ?_
      refine jx_ld (pc' := 28) (l' := L781) (st' := [.int (i32 (nd)), .ref 66]) rfl (jl_iloadn gL781_2) ?_
      refine jx_ld (pc' := 29) (l' := L781) (st' := [.int (i32 (lv)), .int (i32 (nd)), .ref 66]) rfl (jl_iloadn gL781_1) ?_
      refine jx_ar (pc' := 30) (st' := [.int (i32 (0)), .int (i32 (lv)), .int (i32 (nd)), .ref 66]) rfl rfl rfl rfl ?_
      refine jx_hp (pc' := 33) (st' := [.int (i32 (100000)), .int (i32 (0)), .int (i32 (lv)), .int (i32 (nd)), .ref 66]) rfl rfl rfl rfl rfl rfl ?_
      refine jx_vr (pc' := 36) (as := [.int (i32 (nd)), .int (i32 (lv)), .int (i32 (0)), .int (i32 (100000))]) (st := []) rfl rfl rfl rfl ⟨rfl, rfl, Nat.le_of_ble_eq_true rfl⟩ rfl rfl (c_readChildren_w (dd := d) (hP := hP) (zz := nd) (hd := by omega) (hW := hW786) (n := nd) (lv := lv) (least := 0) (mo := 100000) (kk := 26) (aa := 0) (bb := 0) (cc := 0) (de := 0) (xx := 0) (ln := ln2_784) (e_ln := show G782 9 = ln2_784 from (e788)) (li := li) (e_li := show G782 3 = li from ((hF787.1 3 rfl).trans ((hF769.1 3 rfl).trans ((hF607.1 3 rfl).trans (e_li))))) (at0 := at2_604) (e_at0 := show G782 10 = at2_604 from ((hF787.1 10 rfl).trans ((hF769.1 10 rfl).trans (e608)))) (fk := fk2_785) (e_fk := show G782 16 = fk2_785 from (e789)) (nd := nd2_766) (e_nd := show G782 31 = nd2_766 from ((hF787.1 31 rfl).trans (e771))) (sy := sy) (e_sy := show G782 19 = sy from ((hF787.1 19 rfl).trans ((hF769.1 19 rfl).trans ((hF607.1 19 rfl).trans (e_sy))))) (na := na) (e_na := show G782 28 = na from ((hF787.1 28 rfl).trans ((hF769.1 28 rfl).trans ((hF607.1 28 rfl).trans (e_na))))) (vi := vi) (e_vi := show G782 29 = vi from ((hF787.1 29 rfl).trans ((hF769.1 29 rfl).trans ((hF607.1 29 rfl).trans (e_vi))))) (lf := A 3 (ln2_784).toNat) (e_lf := show A783 3 (ln2_784).toNat = A 3 (ln2_784).toNat from (congrFun ((hF787.2 3 rfl).trans ((hF769.2 3 rfl).trans (hF607.2 3 rfl))) _)) (ec := ec2_767) (e_ec := show ecn A783 (G782 31) = ec2_767 from ec796) (i_LT := (LT_ext (((hF787.1 3 rfl).trans ((hF769.1 3 rfl).trans (hF607.1 3 rfl)))) (((hF787.2 3 rfl).trans ((hF769.2 3 rfl).trans (hF607.2 3 rfl)))) (((hF787.2 4 rfl).trans ((hF769.2 4 rfl).trans (hF607.2 4 rfl)))) i_LT)) (i_SV := (SV_fx i_SV e_vi (show G782 29 = vi from ((hF787.1 29 rfl).trans ((hF769.1 29 rfl).trans ((hF607.1 29 rfl).trans (e_vi))))) (by omega) hV794)) (i_PQ := (PQ_fx i_PQ hS793 (by omega) (hF791.2 29 rfl) (hF791.2 30 rfl))) (hvb := hvb) (h_n := ⟨(Int.le_trans (by decide : (-2147483648 : Int) ≤ 0) b_nd.1), (Int.le_trans b_nd.2 (by decide : (6999 : Int) ≤ 2147483647))⟩) (h_lv := ⟨(Int.le_trans (by decide : (-2147483648 : Int) ≤ -2147483648) h_lv.1), (Int.le_trans h_lv.2 (by decide : (2147483647 : Int) ≤ 2147483647))⟩) (h_least := ⟨(by decide), (by decide)⟩) (h_mo := ⟨(by decide), (by decide)⟩)  (p_0 := by omega) (p_1 := by omega) (p_2 := by omega) (p_3 := by omega) (p_4 := by omega) (p_5 := by omega) (p_6 := by omega) (p_7 := by omega) (p_8 := by omega) (p_9 := by omega) (p_10 := by omega) (p_11 := by omega) (p_12 := by omega) (p_13 := by omega) (p_14 := by omega) (p_15 := sf795)) (fun o V' hq => ?_)
      obtain ⟨G806, A807, ln2_808, at2_809, fk2_810, nd2_811, sy2_812, na2_813, vi2_814, lf2_815, mm_816, f2_817, ec2_818, rfl, rfl, hW819, hF820, hQ821, hQ822, hQ823, hQ824, e825, e826, e827, e828, e829, e830, e831, e832, e833, e834, e835, p836, p837, p838, p839, p840, p841, p842, q843⟩ := hq
      have hF844 := Fr_tr hF791 hF820 (Fr_sub (by decide)) (Fr_sub (by decide))
      have hP845 := Pf_tr hP792 hQ821 (by omega)
      have hS846 := Fx_tr hS793 hQ823 (by omega)
      have hV847 := Fx_tr hV794 hQ824 (by omega)
      have bln2_808 : (0 : Int) ≤ ln2_808 ∧ ln2_808 ≤ 3000 := e825 ▸ hW819.1 9
      have bat2_809 : (0 : Int) ≤ at2_809 ∧ at2_809 ≤ 3002 := e826 ▸ hW819.1 10
      have bfk2_810 : (0 : Int) ≤ fk2_810 ∧ fk2_810 ≤ 6 := e827 ▸ hW819.1 16
      have bnd2_811 : (0 : Int) ≤ nd2_811 ∧ nd2_811 ≤ 6999 := e828 ▸ hW819.1 31
      have bsy2_812 : (0 : Int) ≤ sy2_812 ∧ sy2_812 ≤ 202 := e829 ▸ hW819.1 19
      have bna2_813 : (0 : Int) ≤ na2_813 ∧ na2_813 ≤ 200 := e830 ▸ hW819.1 28
      have bvi2_814 : (0 : Int) ≤ vi2_814 ∧ vi2_814 ≤ 202 := e831 ▸ hW819.1 29
      have blf2_815 : (0 : Int) ≤ lf2_815 ∧ lf2_815 ≤ 3000 := e832 ▸ hW819.2 3 _
      have bmm_816 : (-2147483648 : Int) ≤ mm_816 ∧ mm_816 ≤ 2147483647 := e833 ▸ hW819.2 18 _
      have bf2_817 : (-2147483648 : Int) ≤ f2_817 ∧ f2_817 ≤ 2147483647 := e834 ▸ hW819.2 21 _
      refine .inl ⟨rfl, ?_⟩
      rcases q843 with ⟨a848, a849⟩ | ⟨a850, a851, a852, a853, a854, a855, a856, a857⟩
      · have _q : True := trivial
        refine jx_ld (pc' := 37) (l' := L781) (st' := [.int (i32 (nd))]) rfl (jl_iloadn gL781_2) ?_
        refine jx_rt (v := some (.int (i32 (nd)))) rfl rfl rfl rfl rfl rfl ?_
        exact ⟨_, _, _, ln2_808, at2_809, fk2_810, nd2_811, sy2_812, na2_813, vi2_814, lf2_815, ec2_818, rfl, rfl, hW819, hF844, hP845, hS846, hV847, by omega, (e825), (e826), (e827), (e828), (e829), (e830), (e831), (e832), e835, by omega, by omega, by omega, by omega, by omega, by omega, by omega, by omega, by omega, by omega, by first | exact Or.inl (⟨by omega, by omega⟩)⟩
      · have _q : True := trivial
        refine jx_ld (pc' := 37) (l' := L781) (st' := [.int (i32 (nd))]) rfl (jl_iloadn gL781_2) ?_
        refine jx_rt (v := some (.int (i32 (nd)))) rfl rfl rfl rfl rfl rfl ?_
        exact ⟨_, _, _, ln2_808, at2_809, fk2_810, nd2_811, sy2_812, na2_813, vi2_814, lf2_815, ec2_818, rfl, rfl, hW819, hF844, hP845, hS846, hV847, by omega, (e825), (e826), (e827), (e828), (e829), (e830), (e831), (e832), e835, by omega, by omega, by omega, by omega, by omega, by omega, by omega, by omega, by omega, by omega, by first | exact Or.inr ((⟨by omega, by omega, by omega, by omega, by omega, by omega, by omega, (wS_seq (many := mm_816) a855 (RL_eq a856 (by omega) (by omega) (by omega) (by omega) (by omega))), (NX_nd a855), by omega, by omega⟩))⟩
    · have _q : True := trivial
      refine jx_ld (pc' := 27) (l' := L781) (st' := [.ref 66]) rfl (jl_aloadn gL781_0) ?_
      refine jx_ld (pc' := 28) (l' := L781) (st' := [.int (i32 (nd)), .ref 66]) rfl (jl_iloadn gL781_2) ?_
      refine jx_ld (pc' := 29) (l' := L781) (st' := [.int (i32 (lv)), .int (i32 (nd)), .ref 66]) rfl (jl_iloadn gL781_1) ?_
      refine jx_ar (pc' := 30) (st' := [.int (i32 (0)), .int (i32 (lv)), .int (i32 (nd)), .ref 66]) rfl rfl rfl rfl ?_
      refine jx_hp (pc' := 33) (st' := [.int (i32 (100000)), .int (i32 (0)), .int (i32 (lv)), .int (i32 (nd)), .ref 66]) rfl rfl rfl rfl rfl rfl ?_
      refine jx_vr (pc' := 36) (as := [.int (i32 (nd)), .int (i32 (lv)), .int (i32 (0)), .int (i32 (100000))]) (st := []) rfl rfl rfl rfl ⟨rfl, rfl, Nat.le_of_ble_eq_true rfl⟩ rfl rfl (c_readChildren_f (dd := d) (zz := nd) (hd := by omega) (hW := hW786) (n := nd) (lv := lv) (least := 0) (mo := 100000) (fk := fk2_785) (e_fk := show G782 16 = fk2_785 from (e789))  (h_n := ⟨(Int.le_trans (by decide : (-2147483648 : Int) ≤ 0) b_nd.1), (Int.le_trans b_nd.2 (by decide : (6999 : Int) ≤ 2147483647))⟩) (h_lv := ⟨(Int.le_trans (by decide : (-2147483648 : Int) ≤ -2147483648) h_lv.1), (Int.le_trans h_lv.2 (by decide : (2147483647 : Int) ≤ 2147483647))⟩) (h_least := ⟨(by decide), (by decide)⟩) (h_mo := ⟨(by decide), (by decide)⟩)  (p_0 := by omega) (p_1 := by omega) (p_2 := by omega) (p_3 := by omega)) (fun o V' hq => ?_)
      obtain ⟨G858, A859, fk2_860, rfl, rfl, hW861, hF862, hQ863, e864, p865, -⟩ := hq
      have hF867 := Fr_tr hF791 hF862 (Fr_sub (by decide)) (Fr_sub (by decide))
      have hP868 := Pf_tr hP792 hQ863 (by omega)
      have hS869 := Fx_f hS793 hF862 (by decide)
      have hV870 := Fx_f hV794 hF862 (by decide)
      have ec871 : ecn A859 (G858 31) = ec2_767 := (ecn_f (hF862.2 15 rfl) (hF862.1 31 rfl)).trans ec796
      have bfk2_860 : (0 : Int) ≤ fk2_860 ∧ fk2_860 ≤ 6 := e864 ▸ hW861.1 16
      refine .inl ⟨rfl, ?_⟩
      refine jx_ld (pc' := 37) (l' := L781) (st' := [.int (i32 (nd))]) rfl (jl_iloadn gL781_2) ?_
      refine jx_rt (v := some (.int (i32 (nd)))) rfl rfl rfl rfl rfl rfl ?_
      exact ⟨_, _, _, ln2_784, at2_604, fk2_860, nd2_766, sy, na, vi, A 3 (ln2_784).toNat, ec2_767, rfl, rfl, hW861, hF867, hP868, hS869, hV870, by omega, ((hF862.1 9 rfl).trans (e788)), ((hF862.1 10 rfl).trans ((hF787.1 10 rfl).trans ((hF769.1 10 rfl).trans (e608)))), (e864), ((hF862.1 31 rfl).trans ((hF787.1 31 rfl).trans (e771))), ((hF862.1 19 rfl).trans ((hF787.1 19 rfl).trans ((hF769.1 19 rfl).trans ((hF607.1 19 rfl).trans (e_sy))))), ((hF862.1 28 rfl).trans ((hF787.1 28 rfl).trans ((hF769.1 28 rfl).trans ((hF607.1 28 rfl).trans (e_na))))), ((hF862.1 29 rfl).trans ((hF787.1 29 rfl).trans ((hF769.1 29 rfl).trans ((hF607.1 29 rfl).trans (e_vi))))), (congrFun ((hF862.2 3 rfl).trans ((hF787.2 3 rfl).trans ((hF769.2 3 rfl).trans (hF607.2 3 rfl)))) _), ec871, by omega, by omega, by omega, by omega, by omega, by omega, by omega, by omega, by omega, by omega, by first | exact Or.inl (⟨by omega, by omega⟩)⟩
set_option maxRecDepth 20000 in
set_option maxHeartbeats 4000000 in
theorem c_readPar_w_at_132p {X : jX} {k : Nat} (hP : RPw X k) {d : Nat} {Vs : Nat → Prop} {sb pb : Int} (hvb : VB Vs sb) {c0 c1 : jC} {G : Nat → Int} {A : Nat → Nat → Int} {T : jH} {lv : Int} {ln li at0 fk nd sy na vi le op0 tk0 ec : Int} (hd : 8 * k + 82 ≤ d + 1) (hW : Wk G A) (e_ln : G 9 = ln) (e_li : G 3 = li) (e_at0 : G 10 = at0) (e_fk : G 16 = fk) (e_nd : G 31 = nd) (e_sy : G 19 = sy) (e_na : G 28 = na) (e_vi : G 29 = vi) (e_le : A 4 (ln).toNat = le) (e_op0 : G 15 = op0) (e_tk0 : G 11 = tk0) (e_ec : ecn A (G 31) = ec) (i_LT : LT G A) (i_SV : SV Vs sb G A) (i_PQ : PQ Vs sb pb G A) (h_lv : (-2147483648 : Int) ≤ lv ∧ lv ≤ 2147483647) (p_0 : 0 ≤ lv ∧ lv ≤ 15) (p_1 : 18 - lv ≤ ((k + 1 : Nat) : Int)) (p_2 : fk = 0) (p_3 : ln < li) (p_4 : at0 ≤ le) (p_5 : op0 = 0) (p_6 : nd ≤ 2 * at0 - tz tk0 + 30) (p_7 : sy ≤ na + 2) (p_8 : vi ≤ sy) (p_9 : sb = sy) (p_10 : 1 ≤ tk0) : ∀ (L : jL) (Gx : Nat → Int) (Ax : Nat → Nat → Int) (n at1 tk1 fk1 nd1 op1 sy1 na1 ec1 : Int), jGet L 0 = some (.ref 66) → jGet L 1 = some (.int (i32 (lv))) → jGet L 2 = some (.int (i32 n)) → Wk Gx Ax → Fr [9, 10, 11, 12, 13, 14, 15, 16, 17, 18, 19, 28, 29, 31] [6, 7, 8, 9, 10, 11, 12, 14, 15, 16, 17, 18, 19, 20, 21, 22, 23, 24, 28] G A Gx Ax → Pf nd A Ax → Fx sr (sy) A Ax → Fx [14] (vi) A Ax → Gx 10 = at1 → Gx 11 = tk1 → Gx 16 = fk1 → Gx 31 = nd1 → Gx 15 = op1 → Gx 19 = sy1 → Gx 28 = na1 → ecn Ax (Gx 31) = ec1 → Gx 9 = ln → Gx 29 = vi → ((-2147483648 : Int) ≤ n ∧ n ≤ 2147483647) → (1 ≤ fk1) → (at0 ≤ at1) → (at1 ≤ le) → (nd ≤ n ∧ n ≤ 6998 ∧ n < nd1) → (sy ≤ sy1) → (sy1 ≤ na1 + 2) → (0 ≤ op1 ∧ op1 ≤ 9) → (nd1 - nd ≤ 2 * at1 - 2 * at0 + 8) → wj X d jm299 (132, L, [], rV c0 c1 Gx Ax T) (fun o V' => ∃ (G' : Nat → Int) (A' : Nat → Nat → Int) (r : Int) (ln2 : Int) (at2 : Int) (fk2 : Int) (nd2 : Int) (sy2 : Int) (na2 : Int) (vi2 : Int) (lf2 : Int) (ec2 : Int), V' = rV c0 c1 G' A' T ∧ o = .inl (some (.int (i32 r))) ∧ Wk G' A' ∧ Fr [9, 10, 11, 12, 13, 14, 15, 16, 17, 18, 19, 28, 29, 31] [6, 7, 8, 9, 10, 11, 12, 14, 15, 16, 17, 18, 19, 20, 21, 22, 23, 24, 28] G A G' A' ∧ Pf nd A A' ∧ Fx sr (sy) A A' ∧ Fx [14] (vi) A A' ∧ ((-2147483648 : Int) ≤ r ∧ r ≤ 2147483647) ∧ G' 9 = ln2 ∧ G' 10 = at2 ∧ G' 16 = fk2 ∧ G' 31 = nd2 ∧ G' 19 = sy2 ∧ G' 28 = na2 ∧ G' 29 = vi2 ∧ A' 3 (ln2).toNat = lf2 ∧ ecn A' (G' 31) = ec2 ∧ (at0 ≤ at2) ∧ (nd ≤ nd2) ∧ (sy ≤ sy2) ∧ (sy2 ≤ na2 + 2) ∧ (vi ≤ vi2) ∧ (vi2 ≤ vi + 1) ∧ (0 ≤ r) ∧ (r ≤ 6999) ∧ (ln ≤ ln2) ∧ (ln2 ≤ li) ∧ (((1 ≤ fk2) ∧ (nd2 - nd ≤ 2 * at2 - (2 * at0 - tz tk0) + 14)) ∨ ((fk2 = 0) ∧ (vi2 = vi) ∧ (ln < ln2) ∧ (nd2 - nd ≤ 2 * at2 - (2 * at0 - tz tk0)) ∧ (at2 < lf2 ∨ li ≤ ln2) ∧ (nd ≤ r) ∧ (r < nd2) ∧ (wSt A' (sy2) pb (wP A' (sy2) pb (k)) (Vs) (r) (nd) (nd2) (sy) (sy2)) ∧ (NX A' (r)) ∧ (nd2 - nd + 5 * (ec2 - ec) ≤ 2 * at2 - (2 * at0 - tz tk0)) ∧ (nd + 5 * ec ≤ r)))) := by
  have hF0 : Fr [9, 10, 11, 12, 13, 14, 15, 16, 17, 18, 19, 28, 29, 31] [6, 7, 8, 9, 10, 11, 12, 14, 15, 16, 17, 18, 19, 20, 21, 22, 23, 24, 28] G A G A := Fr_rf
  have hP0 : Pf nd A A := Pf_rf
  have hS0 : Fx sr (sy) A A := Fx_rf
  have hV0 : Fx [14] (vi) A A := Fx_rf
  have b_ln : (0 : Int) ≤ ln ∧ ln ≤ 3000 := e_ln ▸ hW.1 9
  have b_li : (0 : Int) ≤ li ∧ li ≤ 3000 := e_li ▸ hW.1 3
  have b_at0 : (0 : Int) ≤ at0 ∧ at0 ≤ 3002 := e_at0 ▸ hW.1 10
  have b_fk : (0 : Int) ≤ fk ∧ fk ≤ 6 := e_fk ▸ hW.1 16
  have b_nd : (0 : Int) ≤ nd ∧ nd ≤ 6999 := e_nd ▸ hW.1 31
  have b_sy : (0 : Int) ≤ sy ∧ sy ≤ 202 := e_sy ▸ hW.1 19
  have b_na : (0 : Int) ≤ na ∧ na ≤ 200 := e_na ▸ hW.1 28
  have b_vi : (0 : Int) ≤ vi ∧ vi ≤ 202 := e_vi ▸ hW.1 29
  have b_le : (0 : Int) ≤ le ∧ le ≤ 3000 := e_le ▸ hW.2 4 _
  have b_op0 : (-2147483648 : Int) ≤ op0 ∧ op0 ≤ 2147483647 := e_op0 ▸ hW.1 15
  have z_tk0 := tz_f tk0
  have b_tk0 : (0 : Int) ≤ tk0 ∧ tk0 ≤ 5 := e_tk0 ▸ hW.1 11
  intro L Gx Ax n at1 tk1 fk1 nd1 op1 sy1 na1 ec1 gL_0 gL_1 gL_2 hWx hFx hPx hSx hVx ex_at1 ex_tk1 ex_fk1 ex_nd1 ex_op1 ex_sy1 ex_na1 ex_ec1 fx_9 fx_29 rx_n iv_0 iv_1 iv_2 iv_3 iv_4 iv_5 iv_6 iv_7
  have b_at1 : (0 : Int) ≤ at1 ∧ at1 ≤ 3002 := ex_at1 ▸ hWx.1 10
  have z_tk1 := tz_f tk1
  have b_tk1 : (0 : Int) ≤ tk1 ∧ tk1 ≤ 5 := ex_tk1 ▸ hWx.1 11
  have b_fk1 : (0 : Int) ≤ fk1 ∧ fk1 ≤ 6 := ex_fk1 ▸ hWx.1 16
  have b_nd1 : (0 : Int) ≤ nd1 ∧ nd1 ≤ 6999 := ex_nd1 ▸ hWx.1 31
  have b_op1 : (-2147483648 : Int) ≤ op1 ∧ op1 ≤ 2147483647 := ex_op1 ▸ hWx.1 15
  have b_sy1 : (0 : Int) ≤ sy1 ∧ sy1 ≤ 202 := ex_sy1 ▸ hWx.1 19
  have b_na1 : (0 : Int) ≤ na1 ∧ na1 ≤ 200 := ex_na1 ▸ hWx.1 28
  refine jx_ld (pc' := 133) (l' := L) (st' := [.ref 66]) rfl (jl_aloadn gL_0) ?_
  refine jx_vr (pc' := 136) (as := []) (st := []) rfl rfl rfl rfl ⟨rfl, rfl, Nat.le_of_ble_eq_true rfl⟩ rfl rfl (c_endLine (dd := d) (hd := by omega) (hW := hWx)  (ln := ln) (e_ln := show Gx 9 = ln from (fx_9)) (li := li) (e_li := show Gx 3 = li from ((hFx.1 3 rfl).trans (e_li))) (fk := fk1) (e_fk := show Gx 16 = fk1 from (ex_fk1)) (tk0 := tk1) (e_tk0 := show Gx 11 = tk1 from (ex_tk1))    (p_0 := by omega)) (fun o V' hq => ?_)
  obtain ⟨G1, A2, ln2_3, fk2_4, rfl, rfl, hW5, hF6, e7, e8, q9⟩ := hq
  have hF10 := Fr_tr hFx hF6 (Fr_sub (by decide)) (Fr_sub (by decide))
  have hP11 := Pf_f hPx hF6 (by decide)
  have hS12 := Fx_f hSx hF6 (by decide)
  have hV13 := Fx_f hVx hF6 (by decide)
  have ec14 : ecn A2 (G1 31) = ec1 := (ecn_f (hF6.2 15 rfl) (hF6.1 31 rfl)).trans ex_ec1
  have bln2_3 : (0 : Int) ≤ ln2_3 ∧ ln2_3 ≤ 3000 := e7 ▸ hW5.1 9
  have bfk2_4 : (0 : Int) ≤ fk2_4 ∧ fk2_4 ≤ 6 := e8 ▸ hW5.1 16
  refine .inl ⟨rfl, ?_⟩
  rcases q9 with ⟨a15, a16, a17, a18, a19⟩ | ⟨a20, a21⟩
  · have _q : True := trivial
    exfalso
    omega
  · have _q : True := trivial
    refine jx_ld (pc' := 137) (l' := L) (st' := [.ref 66]) rfl (jl_aloadn gL_0) ?_
    refine jx_ld (pc' := 138) (l' := L) (st' := [.int (i32 (n)), .ref 66]) rfl (jl_iloadn gL_2) ?_
    refine jx_ld (pc' := 139) (l' := L) (st' := [.int (i32 (lv)), .int (i32 (n)), .ref 66]) rfl (jl_iloadn gL_1) ?_
    refine jx_vr (pc' := 142) (as := [.int (i32 (n)), .int (i32 (lv))]) (st := []) rfl rfl rfl rfl ⟨rfl, rfl, Nat.le_of_ble_eq_true rfl⟩ rfl rfl (c_readIndexed_f (dd := d) (hd := by omega) (hW := hW5) (n := n) (lv := lv) (fk := fk2_4) (e_fk := show G1 16 = fk2_4 from (e8))  (h_n := ⟨(Int.le_trans (by decide : (-2147483648 : Int) ≤ -2147483648) rx_n.1), (Int.le_trans rx_n.2 (by decide : (2147483647 : Int) ≤ 2147483647))⟩) (h_lv := ⟨(Int.le_trans (by decide : (-2147483648 : Int) ≤ -2147483648) h_lv.1), (Int.le_trans h_lv.2 (by decide : (2147483647 : Int) ≤ 2147483647))⟩)  (p_0 := by omega)) (fun o V' hq => ?_)
    obtain ⟨r22, rfl, rfl, b23, p24, -⟩ := hq
    refine .inr ⟨_, rfl, ?_⟩
    refine jx_rt (v := some (.int (i32 (r22)))) rfl rfl rfl rfl rfl rfl ?_
    exact ⟨_, _, _, ln2_3, at1, fk2_4, nd1, sy1, na1, vi, A 3 (ln2_3).toNat, ec1, rfl, rfl, hW5, hF10, hP11, hS12, hV13, by omega, (e7), ((hF6.1 10 rfl).trans (ex_at1)), (e8), ((hF6.1 31 rfl).trans (ex_nd1)), ((hF6.1 19 rfl).trans (ex_sy1)), ((hF6.1 28 rfl).trans (ex_na1)), ((hF6.1 29 rfl).trans (fx_29)), (congrFun ((hF6.2 3 rfl).trans (hFx.2 3 rfl)) _), ec14, by omega, by omega, by omega, by omega, by omega, by omega, by omega, by omega, by omega, by omega, by first | exact Or.inl (⟨by omega, by omega⟩)⟩
set_option maxRecDepth 20000 in
set_option maxHeartbeats 4000000 in
theorem c_readPar_w_at_119p {X : jX} {k : Nat} (hP : RPw X k) {d : Nat} {Vs : Nat → Prop} {sb pb : Int} (hvb : VB Vs sb) {c0 c1 : jC} {G : Nat → Int} {A : Nat → Nat → Int} {T : jH} {lv : Int} {ln li at0 fk nd sy na vi le op0 tk0 ec : Int} (hd : 8 * k + 82 ≤ d + 1) (hW : Wk G A) (e_ln : G 9 = ln) (e_li : G 3 = li) (e_at0 : G 10 = at0) (e_fk : G 16 = fk) (e_nd : G 31 = nd) (e_sy : G 19 = sy) (e_na : G 28 = na) (e_vi : G 29 = vi) (e_le : A 4 (ln).toNat = le) (e_op0 : G 15 = op0) (e_tk0 : G 11 = tk0) (e_ec : ecn A (G 31) = ec) (i_LT : LT G A) (i_SV : SV Vs sb G A) (i_PQ : PQ Vs sb pb G A) (h_lv : (-2147483648 : Int) ≤ lv ∧ lv ≤ 2147483647) (p_0 : 0 ≤ lv ∧ lv ≤ 15) (p_1 : 18 - lv ≤ ((k + 1 : Nat) : Int)) (p_2 : fk = 0) (p_3 : ln < li) (p_4 : at0 ≤ le) (p_5 : op0 = 0) (p_6 : nd ≤ 2 * at0 - tz tk0 + 30) (p_7 : sy ≤ na + 2) (p_8 : vi ≤ sy) (p_9 : sb = sy) (p_10 : 1 ≤ tk0) : ∀ (L : jL) (Gx : Nat → Int) (Ax : Nat → Nat → Int) (n at1 tk1 fk1 nd1 op1 sy1 na1 ec1 : Int), jGet L 0 = some (.ref 66) → jGet L 1 = some (.int (i32 (lv))) → jGet L 2 = some (.int (i32 n)) → Wk Gx Ax → Fr [9, 10, 11, 12, 13, 14, 15, 16, 17, 18, 19, 28, 29, 31] [6, 7, 8, 9, 10, 11, 12, 14, 15, 16, 17, 18, 19, 20, 21, 22, 23, 24, 28] G A Gx Ax → Pf nd A Ax → Fx sr (sy) A Ax → Fx [14] (vi) A Ax → Gx 10 = at1 → Gx 11 = tk1 → Gx 16 = fk1 → Gx 31 = nd1 → Gx 15 = op1 → Gx 19 = sy1 → Gx 28 = na1 → ecn Ax (Gx 31) = ec1 → Gx 9 = ln → Gx 29 = vi → ((-2147483648 : Int) ≤ n ∧ n ≤ 2147483647) → (1 ≤ fk1) → (at0 ≤ at1) → (at1 ≤ le) → (nd ≤ n ∧ n ≤ 6998 ∧ n < nd1) → (sy ≤ sy1) → (sy1 ≤ na1 + 2) → (0 ≤ op1 ∧ op1 ≤ 9) → (nd1 - nd ≤ 2 * at1 - 2 * at0 + 8) → wj X d jm299 (119, L, [], rV c0 c1 Gx Ax T) (fun o V' => ∃ (G' : Nat → Int) (A' : Nat → Nat → Int) (r : Int) (ln2 : Int) (at2 : Int) (fk2 : Int) (nd2 : Int) (sy2 : Int) (na2 : Int) (vi2 : Int) (lf2 : Int) (ec2 : Int), V' = rV c0 c1 G' A' T ∧ o = .inl (some (.int (i32 r))) ∧ Wk G' A' ∧ Fr [9, 10, 11, 12, 13, 14, 15, 16, 17, 18, 19, 28, 29, 31] [6, 7, 8, 9, 10, 11, 12, 14, 15, 16, 17, 18, 19, 20, 21, 22, 23, 24, 28] G A G' A' ∧ Pf nd A A' ∧ Fx sr (sy) A A' ∧ Fx [14] (vi) A A' ∧ ((-2147483648 : Int) ≤ r ∧ r ≤ 2147483647) ∧ G' 9 = ln2 ∧ G' 10 = at2 ∧ G' 16 = fk2 ∧ G' 31 = nd2 ∧ G' 19 = sy2 ∧ G' 28 = na2 ∧ G' 29 = vi2 ∧ A' 3 (ln2).toNat = lf2 ∧ ecn A' (G' 31) = ec2 ∧ (at0 ≤ at2) ∧ (nd ≤ nd2) ∧ (sy ≤ sy2) ∧ (sy2 ≤ na2 + 2) ∧ (vi ≤ vi2) ∧ (vi2 ≤ vi + 1) ∧ (0 ≤ r) ∧ (r ≤ 6999) ∧ (ln ≤ ln2) ∧ (ln2 ≤ li) ∧ (((1 ≤ fk2) ∧ (nd2 - nd ≤ 2 * at2 - (2 * at0 - tz tk0) + 14)) ∨ ((fk2 = 0) ∧ (vi2 = vi) ∧ (ln < ln2) ∧ (nd2 - nd ≤ 2 * at2 - (2 * at0 - tz tk0)) ∧ (at2 < lf2 ∨ li ≤ ln2) ∧ (nd ≤ r) ∧ (r < nd2) ∧ (wSt A' (sy2) pb (wP A' (sy2) pb (k)) (Vs) (r) (nd) (nd2) (sy) (sy2)) ∧ (NX A' (r)) ∧ (nd2 - nd + 5 * (ec2 - ec) ≤ 2 * at2 - (2 * at0 - tz tk0)) ∧ (nd + 5 * ec ≤ r)))) := by
  have hF0 : Fr [9, 10, 11, 12, 13, 14, 15, 16, 17, 18, 19, 28, 29, 31] [6, 7, 8, 9, 10, 11, 12, 14, 15, 16, 17, 18, 19, 20, 21, 22, 23, 24, 28] G A G A := Fr_rf
  have hP0 : Pf nd A A := Pf_rf
  have hS0 : Fx sr (sy) A A := Fx_rf
  have hV0 : Fx [14] (vi) A A := Fx_rf
  have b_ln : (0 : Int) ≤ ln ∧ ln ≤ 3000 := e_ln ▸ hW.1 9
  have b_li : (0 : Int) ≤ li ∧ li ≤ 3000 := e_li ▸ hW.1 3
  have b_at0 : (0 : Int) ≤ at0 ∧ at0 ≤ 3002 := e_at0 ▸ hW.1 10
  have b_fk : (0 : Int) ≤ fk ∧ fk ≤ 6 := e_fk ▸ hW.1 16
  have b_nd : (0 : Int) ≤ nd ∧ nd ≤ 6999 := e_nd ▸ hW.1 31
  have b_sy : (0 : Int) ≤ sy ∧ sy ≤ 202 := e_sy ▸ hW.1 19
  have b_na : (0 : Int) ≤ na ∧ na ≤ 200 := e_na ▸ hW.1 28
  have b_vi : (0 : Int) ≤ vi ∧ vi ≤ 202 := e_vi ▸ hW.1 29
  have b_le : (0 : Int) ≤ le ∧ le ≤ 3000 := e_le ▸ hW.2 4 _
  have b_op0 : (-2147483648 : Int) ≤ op0 ∧ op0 ≤ 2147483647 := e_op0 ▸ hW.1 15
  have z_tk0 := tz_f tk0
  have b_tk0 : (0 : Int) ≤ tk0 ∧ tk0 ≤ 5 := e_tk0 ▸ hW.1 11
  intro L Gx Ax n at1 tk1 fk1 nd1 op1 sy1 na1 ec1 gL_0 gL_1 gL_2 hWx hFx hPx hSx hVx ex_at1 ex_tk1 ex_fk1 ex_nd1 ex_op1 ex_sy1 ex_na1 ex_ec1 fx_9 fx_29 rx_n iv_0 iv_1 iv_2 iv_3 iv_4 iv_5 iv_6 iv_7
  have b_at1 : (0 : Int) ≤ at1 ∧ at1 ≤ 3002 := ex_at1 ▸ hWx.1 10
  have z_tk1 := tz_f tk1
  have b_tk1 : (0 : Int) ≤ tk1 ∧ tk1 ≤ 5 := ex_tk1 ▸ hWx.1 11
  have b_fk1 : (0 : Int) ≤ fk1 ∧ fk1 ≤ 6 := ex_fk1 ▸ hWx.1 16
  have b_nd1 : (0 : Int) ≤ nd1 ∧ nd1 ≤ 6999 := ex_nd1 ▸ hWx.1 31
  have b_op1 : (-2147483648 : Int) ≤ op1 ∧ op1 ≤ 2147483647 := ex_op1 ▸ hWx.1 15
  have b_sy1 : (0 : Int) ≤ sy1 ∧ sy1 ≤ 202 := ex_sy1 ▸ hWx.1 19
  have b_na1 : (0 : Int) ≤ na1 ∧ na1 ≤ 200 := ex_na1 ▸ hWx.1 28
  refine jx_ld (pc' := 120) (l' := L) (st' := [.ref 66]) rfl (jl_aloadn gL_0) ?_
  refine jr_get (pc' := 123) (i := 37) (v := .ref 87) rfl rfl (by decide) rfl rfl ?_
  refine jx_ld (pc' := 124) (l' := L) (st' := [.int (i32 (n)), .ref 87]) rfl (jl_iloadn gL_2) ?_
  refine jx_ld (pc' := 125) (l' := L) (st' := [.ref 66, .int (i32 (n)), .ref 87]) rfl (jl_aloadn gL_0) ?_
  refine jx_ar (pc' := 126) (st' := [.int (i32 (1)), .ref 66, .int (i32 (n)), .ref 87]) rfl rfl rfl rfl ?_
  refine jx_ar (pc' := 128) (st' := [.int (i32 (8)), .int (i32 (1)), .ref 66, .int (i32 (n)), .ref 87]) rfl rfl rfl rfl ?_
  refine jx_vr (pc' := 131) (as := [.int (i32 (1)), .int (i32 (8))]) (st := [.int (i32 (n)), .ref 87]) rfl rfl rfl rfl ⟨rfl, rfl, Nat.le_of_ble_eq_true rfl⟩ rfl rfl (c_needNumber (dd := d) (hd := by omega) (hW := hWx) (lo := 1) (hi := 8) (ln := ln) (e_ln := show Gx 9 = ln from (fx_9)) (le := le) (e_le := show Ax 4 (ln).toNat = le from (congrFun (hFx.2 4 rfl) _).trans (e_le)) (at0 := at1) (e_at0 := show Gx 10 = at1 from (ex_at1)) (fk := fk1) (e_fk := show Gx 16 = fk1 from (ex_fk1)) (tk0 := tk1) (e_tk0 := show Gx 11 = tk1 from (ex_tk1))  (h_lo := ⟨(by decide), (by decide)⟩) (h_hi := ⟨(by decide), (by decide)⟩)  (p_0 := by omega)) (fun o V' hq => ?_)
  obtain ⟨G26, A27, r28, at2_29, tk2_30, fk2_31, rfl, rfl, hW32, hF33, b34, e35, e36, e37, p38, p39, q40⟩ := hq
  have hF41 := Fr_tr hFx hF33 (Fr_sub (by decide)) (Fr_sub (by decide))
  have hP42 := Pf_f hPx hF33 (by decide)
  have hS43 := Fx_f hSx hF33 (by decide)
  have hV44 := Fx_f hVx hF33 (by decide)
  have ec45 : ecn A27 (G26 31) = ec1 := (ecn_f (hF33.2 15 rfl) (hF33.1 31 rfl)).trans ex_ec1
  have bat2_29 : (0 : Int) ≤ at2_29 ∧ at2_29 ≤ 3002 := e35 ▸ hW32.1 10
  have ztk2_30 := tz_b tk2_30
  have btk2_30 : (0 : Int) ≤ tk2_30 ∧ tk2_30 ≤ 5 := e36 ▸ hW32.1 11
  have bfk2_31 : (0 : Int) ≤ fk2_31 ∧ fk2_31 ≤ 6 := e37 ▸ hW32.1 16
  refine .inr ⟨_, rfl, ?_⟩
  rcases q40 with ⟨a46, a47, a48, a49⟩ | ⟨a50, a51, a52, a53, a54⟩
  · have _q : True := trivial
    refine jr_st (pc' := 132) (i := 20) (m := 7000) (z := n) (y := r28) rfl (by decide) rfl (by decide) (by omega) (by omega) rfl ?_
    have hW56 : Wk G26 (uA A27 20 (n).toNat (r28)) := Wk_a hW32 (show (-2147483648 : Int) ≤ r28 by omega) (show r28 ≤ (2147483647 : Int) by omega)
    have hF57 := Fr_a (z := r28) (k := 20) (n := (n).toNat) hF41 (by decide)
    obtain ⟨A55, eA55⟩ : ∃ q, q = uA A27 20 (n).toNat (r28) := ⟨_, rfl⟩
    rw [← eA55]
    rw [← eA55] at hW56 hF57
    have q58 : A55 20 (n).toNat = r28 := by rw [eA55]; exact uA_eq
    have hP59 : Pf nd A A55 := eA55 ▸ Pf_a hP42 (z := n) (by omega) (by omega)
    have hS60 : Fx sr (sy) A A55 := eA55 ▸ Fx_n hS43 rfl
    have hV61 : Fx [14] (vi) A A55 := eA55 ▸ Fx_n hV44 rfl
    have ec62 : ecn A55 (G26 31) = ec1 := (ecn_e ((congrFun eA55 15).trans (uA_ne (by decide)))).trans ec45
    have z63 := tz_f (tk2_30)
    exact c_readPar_w_at_132p (X := X) (k := k) (hP := hP) (d := d) (Vs := Vs) (sb := sb) (pb := pb) (hvb := hvb) (c0 := c0) (c1 := c1) (G := G) (A := A) (T := T) (lv := lv) (ln := ln) (li := li) (at0 := at0) (fk := fk) (nd := nd) (sy := sy) (na := na) (vi := vi) (le := le) (op0 := op0) (tk0 := tk0) (ec := ec) (hd := hd) (hW := hW) (e_ln := e_ln) (e_li := e_li) (e_at0 := e_at0) (e_fk := e_fk) (e_nd := e_nd) (e_sy := e_sy) (e_na := e_na) (e_vi := e_vi) (e_le := e_le) (e_op0 := e_op0) (e_tk0 := e_tk0) (e_ec := e_ec) (i_LT := i_LT) (i_SV := i_SV) (i_PQ := i_PQ) (h_lv := h_lv) (p_0 := p_0) (p_1 := p_1) (p_2 := p_2) (p_3 := p_3) (p_4 := p_4) (p_5 := p_5) (p_6 := p_6) (p_7 := p_7) (p_8 := p_8) (p_9 := p_9) (p_10 := p_10) L G26 A55 (n) (at2_29) (tk2_30) (fk2_31) (nd1) (op1) (sy1) (na1) (ec1) gL_0 gL_1 gL_2 hW56 hF57 hP59 hS60 hV61 ((e35)) ((e36)) ((e37)) (((hF33.1 31 rfl).trans (ex_nd1))) (((hF33.1 15 rfl).trans (ex_op1))) (((hF33.1 19 rfl).trans (ex_sy1))) (((hF33.1 28 rfl).trans (ex_na1))) (ec62) (((hF33.1 9 rfl).trans (fx_9))) (((hF33.1 29 rfl).trans (fx_29))) (by omega) (by omega) (by omega) (by omega) (by omega) (by omega) (by omega) (by omega) (by omega)
  · have _q : True := trivial
    exfalso
    omega
set_option maxRecDepth 20000 in
set_option maxHeartbeats 4000000 in
theorem c_readPar_w_at_109p {X : jX} {k : Nat} (hP : RPw X k) {d : Nat} {Vs : Nat → Prop} {sb pb : Int} (hvb : VB Vs sb) {c0 c1 : jC} {G : Nat → Int} {A : Nat → Nat → Int} {T : jH} {lv : Int} {ln li at0 fk nd sy na vi le op0 tk0 ec : Int} (hd : 8 * k + 82 ≤ d + 1) (hW : Wk G A) (e_ln : G 9 = ln) (e_li : G 3 = li) (e_at0 : G 10 = at0) (e_fk : G 16 = fk) (e_nd : G 31 = nd) (e_sy : G 19 = sy) (e_na : G 28 = na) (e_vi : G 29 = vi) (e_le : A 4 (ln).toNat = le) (e_op0 : G 15 = op0) (e_tk0 : G 11 = tk0) (e_ec : ecn A (G 31) = ec) (i_LT : LT G A) (i_SV : SV Vs sb G A) (i_PQ : PQ Vs sb pb G A) (h_lv : (-2147483648 : Int) ≤ lv ∧ lv ≤ 2147483647) (p_0 : 0 ≤ lv ∧ lv ≤ 15) (p_1 : 18 - lv ≤ ((k + 1 : Nat) : Int)) (p_2 : fk = 0) (p_3 : ln < li) (p_4 : at0 ≤ le) (p_5 : op0 = 0) (p_6 : nd ≤ 2 * at0 - tz tk0 + 30) (p_7 : sy ≤ na + 2) (p_8 : vi ≤ sy) (p_9 : sb = sy) (p_10 : 1 ≤ tk0) : ∀ (L : jL) (Gx : Nat → Int) (Ax : Nat → Nat → Int) (n at1 tk1 fk1 nd1 op1 sy1 na1 ec1 : Int), jGet L 0 = some (.ref 66) → jGet L 1 = some (.int (i32 (lv))) → jGet L 2 = some (.int (i32 n)) → Wk Gx Ax → Fr [9, 10, 11, 12, 13, 14, 15, 16, 17, 18, 19, 28, 29, 31] [6, 7, 8, 9, 10, 11, 12, 14, 15, 16, 17, 18, 19, 20, 21, 22, 23, 24, 28] G A Gx Ax → Pf nd A Ax → Fx sr (sy) A Ax → Fx [14] (vi) A Ax → Gx 10 = at1 → Gx 11 = tk1 → Gx 16 = fk1 → Gx 31 = nd1 → Gx 15 = op1 → Gx 19 = sy1 → Gx 28 = na1 → ecn Ax (Gx 31) = ec1 → Gx 9 = ln → Gx 29 = vi → ((-2147483648 : Int) ≤ n ∧ n ≤ 2147483647) → (1 ≤ fk1) → (at0 ≤ at1) → (at1 ≤ le) → (nd ≤ n ∧ n ≤ 6998 ∧ n < nd1) → (sy ≤ sy1) → (sy1 ≤ na1 + 2) → (0 ≤ op1 ∧ op1 ≤ 9) → (nd1 - nd ≤ 2 * at1 - 2 * at0 + 8) → wj X d jm299 (109, L, [], rV c0 c1 Gx Ax T) (fun o V' => ∃ (G' : Nat → Int) (A' : Nat → Nat → Int) (r : Int) (ln2 : Int) (at2 : Int) (fk2 : Int) (nd2 : Int) (sy2 : Int) (na2 : Int) (vi2 : Int) (lf2 : Int) (ec2 : Int), V' = rV c0 c1 G' A' T ∧ o = .inl (some (.int (i32 r))) ∧ Wk G' A' ∧ Fr [9, 10, 11, 12, 13, 14, 15, 16, 17, 18, 19, 28, 29, 31] [6, 7, 8, 9, 10, 11, 12, 14, 15, 16, 17, 18, 19, 20, 21, 22, 23, 24, 28] G A G' A' ∧ Pf nd A A' ∧ Fx sr (sy) A A' ∧ Fx [14] (vi) A A' ∧ ((-2147483648 : Int) ≤ r ∧ r ≤ 2147483647) ∧ G' 9 = ln2 ∧ G' 10 = at2 ∧ G' 16 = fk2 ∧ G' 31 = nd2 ∧ G' 19 = sy2 ∧ G' 28 = na2 ∧ G' 29 = vi2 ∧ A' 3 (ln2).toNat = lf2 ∧ ecn A' (G' 31) = ec2 ∧ (at0 ≤ at2) ∧ (nd ≤ nd2) ∧ (sy ≤ sy2) ∧ (sy2 ≤ na2 + 2) ∧ (vi ≤ vi2) ∧ (vi2 ≤ vi + 1) ∧ (0 ≤ r) ∧ (r ≤ 6999) ∧ (ln ≤ ln2) ∧ (ln2 ≤ li) ∧ (((1 ≤ fk2) ∧ (nd2 - nd ≤ 2 * at2 - (2 * at0 - tz tk0) + 14)) ∨ ((fk2 = 0) ∧ (vi2 = vi) ∧ (ln < ln2) ∧ (nd2 - nd ≤ 2 * at2 - (2 * at0 - tz tk0)) ∧ (at2 < lf2 ∨ li ≤ ln2) ∧ (nd ≤ r) ∧ (r < nd2) ∧ (wSt A' (sy2) pb (wP A' (sy2) pb (k)) (Vs) (r) (nd) (nd2) (sy) (sy2)) ∧ (NX A' (r)) ∧ (nd2 - nd + 5 * (ec2 - ec) ≤ 2 * at2 - (2 * at0 - tz tk0)) ∧ (nd + 5 * ec ≤ r)))) := by
  have hF0 : Fr [9, 10, 11, 12, 13, 14, 15, 16, 17, 18, 19, 28, 29, 31] [6, 7, 8, 9, 10, 11, 12, 14, 15, 16, 17, 18, 19, 20, 21, 22, 23, 24, 28] G A G A := Fr_rf
  have hP0 : Pf nd A A := Pf_rf
  have hS0 : Fx sr (sy) A A := Fx_rf
  have hV0 : Fx [14] (vi) A A := Fx_rf
  have b_ln : (0 : Int) ≤ ln ∧ ln ≤ 3000 := e_ln ▸ hW.1 9
  have b_li : (0 : Int) ≤ li ∧ li ≤ 3000 := e_li ▸ hW.1 3
  have b_at0 : (0 : Int) ≤ at0 ∧ at0 ≤ 3002 := e_at0 ▸ hW.1 10
  have b_fk : (0 : Int) ≤ fk ∧ fk ≤ 6 := e_fk ▸ hW.1 16
  have b_nd : (0 : Int) ≤ nd ∧ nd ≤ 6999 := e_nd ▸ hW.1 31
  have b_sy : (0 : Int) ≤ sy ∧ sy ≤ 202 := e_sy ▸ hW.1 19
  have b_na : (0 : Int) ≤ na ∧ na ≤ 200 := e_na ▸ hW.1 28
  have b_vi : (0 : Int) ≤ vi ∧ vi ≤ 202 := e_vi ▸ hW.1 29
  have b_le : (0 : Int) ≤ le ∧ le ≤ 3000 := e_le ▸ hW.2 4 _
  have b_op0 : (-2147483648 : Int) ≤ op0 ∧ op0 ≤ 2147483647 := e_op0 ▸ hW.1 15
  have z_tk0 := tz_f tk0
  have b_tk0 : (0 : Int) ≤ tk0 ∧ tk0 ≤ 5 := e_tk0 ▸ hW.1 11
  intro L Gx Ax n at1 tk1 fk1 nd1 op1 sy1 na1 ec1 gL_0 gL_1 gL_2 hWx hFx hPx hSx hVx ex_at1 ex_tk1 ex_fk1 ex_nd1 ex_op1 ex_sy1 ex_na1 ex_ec1 fx_9 fx_29 rx_n iv_0 iv_1 iv_2 iv_3 iv_4 iv_5 iv_6 iv_7
  have b_at1 : (0 : Int) ≤ at1 ∧ at1 ≤ 3002 := ex_at1 ▸ hWx.1 10
  have z_tk1 := tz_f tk1
  have b_tk1 : (0 : Int) ≤ tk1 ∧ tk1 ≤ 5 := ex_tk1 ▸ hWx.1 11
  have b_fk1 : (0 : Int) ≤ fk1 ∧ fk1 ≤ 6 := ex_fk1 ▸ hWx.1 16
  have b_nd1 : (0 : Int) ≤ nd1 ∧ nd1 ≤ 6999 := ex_nd1 ▸ hWx.1 31
  have b_op1 : (-2147483648 : Int) ≤ op1 ∧ op1 ≤ 2147483647 := ex_op1 ▸ hWx.1 15
  have b_sy1 : (0 : Int) ≤ sy1 ∧ sy1 ≤ 202 := ex_sy1 ▸ hWx.1 19
  have b_na1 : (0 : Int) ≤ na1 ∧ na1 ≤ 200 := ex_na1 ▸ hWx.1 28
  refine jx_ld (pc' := 110) (l' := L) (st' := [.ref 66]) rfl (jl_aloadn gL_0) ?_
  refine jx_ld (pc' := 111) (l' := L) (st' := [.ref 66, .ref 66]) rfl (jl_aloadn gL_0) ?_
  refine jx_ar (pc' := 113) (st' := [.int (i32 (13)), .ref 66, .ref 66]) rfl rfl rfl rfl ?_
  have b64 : (-2147483648 : Int) ≤ Gx 13 ∧ Gx 13 ≤ 2147483647 := hWx.1 13
  refine jx_vr (pc' := 116) (as := [.int (i32 (13))]) (st := [.ref 66]) rfl rfl rfl rfl ⟨rfl, rfl, Nat.le_of_ble_eq_true rfl⟩ rfl rfl (c_isKey (dd := d) (hd := by omega) (hW := hWx) (k := 13) (tk := tk1) (e_tk := show Gx 11 = tk1 from (ex_tk1)) (tn := Gx 13) (e_tn := show Gx 13 = Gx 13 from rfl)  (h_k := ⟨(by decide), (by decide)⟩)  ) (fun o V' hq => ?_)
  obtain ⟨r65, rfl, rfl, b66, q67⟩ := hq
  refine .inr ⟨_, rfl, ?_⟩
  rcases q67 with ⟨rfl, a68, a69, a70⟩ | rfl
  · have _q : True := trivial
    refine jx_vr (pc' := 119) (as := [.int (i32 (1))]) (st := []) rfl rfl rfl rfl ⟨rfl, rfl, Nat.le_of_ble_eq_true rfl⟩ rfl rfl (c_need (dd := d) (hd := by omega) (hW := hWx) (g := 1) (ln := ln) (e_ln := show Gx 9 = ln from (fx_9)) (le := le) (e_le := show Ax 4 (ln).toNat = le from (congrFun (hFx.2 4 rfl) _).trans (e_le)) (at0 := at1) (e_at0 := show Gx 10 = at1 from (ex_at1)) (fk := fk1) (e_fk := show Gx 16 = fk1 from (ex_fk1)) (tk0 := tk1) (e_tk0 := show Gx 11 = tk1 from (ex_tk1))  (h_g := ⟨(by decide), (by decide)⟩)  (p_0 := by omega)) (fun o V' hq => ?_)
    obtain ⟨G71, A72, at2_73, tk2_74, fk2_75, rfl, rfl, hW76, hF77, e78, e79, e80, p81, p82, q83⟩ := hq
    have hF84 := Fr_tr hFx hF77 (Fr_sub (by decide)) (Fr_sub (by decide))
    have hP85 := Pf_f hPx hF77 (by decide)
    have hS86 := Fx_f hSx hF77 (by decide)
    have hV87 := Fx_f hVx hF77 (by decide)
    have ec88 : ecn A72 (G71 31) = ec1 := (ecn_f (hF77.2 15 rfl) (hF77.1 31 rfl)).trans ex_ec1
    have bat2_73 : (0 : Int) ≤ at2_73 ∧ at2_73 ≤ 3002 := e78 ▸ hW76.1 10
    have ztk2_74 := tz_b tk2_74
    have btk2_74 : (0 : Int) ≤ tk2_74 ∧ tk2_74 ≤ 5 := e79 ▸ hW76.1 11
    have bfk2_75 : (0 : Int) ≤ fk2_75 ∧ fk2_75 ≤ 6 := e80 ▸ hW76.1 16
    refine .inl ⟨rfl, ?_⟩
    rcases q83 with ⟨a89, a90, a91, a92⟩ | ⟨a93, a94, a95, a96⟩
    · have _q : True := trivial
      have z97 := tz_f (tk2_74)
      exact c_readPar_w_at_119p (X := X) (k := k) (hP := hP) (d := d) (Vs := Vs) (sb := sb) (pb := pb) (hvb := hvb) (c0 := c0) (c1 := c1) (G := G) (A := A) (T := T) (lv := lv) (ln := ln) (li := li) (at0 := at0) (fk := fk) (nd := nd) (sy := sy) (na := na) (vi := vi) (le := le) (op0 := op0) (tk0 := tk0) (ec := ec) (hd := hd) (hW := hW) (e_ln := e_ln) (e_li := e_li) (e_at0 := e_at0) (e_fk := e_fk) (e_nd := e_nd) (e_sy := e_sy) (e_na := e_na) (e_vi := e_vi) (e_le := e_le) (e_op0 := e_op0) (e_tk0 := e_tk0) (e_ec := e_ec) (i_LT := i_LT) (i_SV := i_SV) (i_PQ := i_PQ) (h_lv := h_lv) (p_0 := p_0) (p_1 := p_1) (p_2 := p_2) (p_3 := p_3) (p_4 := p_4) (p_5 := p_5) (p_6 := p_6) (p_7 := p_7) (p_8 := p_8) (p_9 := p_9) (p_10 := p_10) L G71 A72 (n) (at2_73) (tk2_74) (fk2_75) (nd1) (op1) (sy1) (na1) (ec1) gL_0 gL_1 gL_2 hW76 hF84 hP85 hS86 hV87 ((e78)) ((e79)) ((e80)) (((hF77.1 31 rfl).trans (ex_nd1))) (((hF77.1 15 rfl).trans (ex_op1))) (((hF77.1 19 rfl).trans (ex_sy1))) (((hF77.1 28 rfl).trans (ex_na1))) (ec88) (((hF77.1 9 rfl).trans (fx_9))) (((hF77.1 29 rfl).trans (fx_29))) (by omega) (by omega) (by omega) (by omega) (by omega) (by omega) (by omega) (by omega) (by omega)
    · have _q : True := trivial
      exfalso
      omega
  · have _q : True := trivial
    refine jx_vr (pc' := 119) (as := [.int (i32 (0))]) (st := []) rfl rfl rfl rfl ⟨rfl, rfl, Nat.le_of_ble_eq_true rfl⟩ rfl rfl (c_need (dd := d) (hd := by omega) (hW := hWx) (g := 0) (ln := ln) (e_ln := show Gx 9 = ln from (fx_9)) (le := le) (e_le := show Ax 4 (ln).toNat = le from (congrFun (hFx.2 4 rfl) _).trans (e_le)) (at0 := at1) (e_at0 := show Gx 10 = at1 from (ex_at1)) (fk := fk1) (e_fk := show Gx 16 = fk1 from (ex_fk1)) (tk0 := tk1) (e_tk0 := show Gx 11 = tk1 from (ex_tk1))  (h_g := ⟨(by decide), (by decide)⟩)  (p_0 := by omega)) (fun o V' hq => ?_)
    obtain ⟨G98, A99, at2_100, tk2_101, fk2_102, rfl, rfl, hW103, hF104, e105, e106, e107, p108, p109, q110⟩ := hq
    have hF111 := Fr_tr hFx hF104 (Fr_sub (by decide)) (Fr_sub (by decide))
    have hP112 := Pf_f hPx hF104 (by decide)
    have hS113 := Fx_f hSx hF104 (by decide)
    have hV114 := Fx_f hVx hF104 (by decide)
    have ec115 : ecn A99 (G98 31) = ec1 := (ecn_f (hF104.2 15 rfl) (hF104.1 31 rfl)).trans ex_ec1
    have bat2_100 : (0 : Int) ≤ at2_100 ∧ at2_100 ≤ 3002 := e105 ▸ hW103.1 10
    have ztk2_101 := tz_b tk2_101
    have btk2_101 : (0 : Int) ≤ tk2_101 ∧ tk2_101 ≤ 5 := e106 ▸ hW103.1 11
    have bfk2_102 : (0 : Int) ≤ fk2_102 ∧ fk2_102 ≤ 6 := e107 ▸ hW103.1 16
    refine .inl ⟨rfl, ?_⟩
    rcases q110 with ⟨a116, a117, a118, a119⟩ | ⟨a120, a121, a122, a123⟩
    · have _q : True := trivial
      have z124 := tz_f (tk2_101)
      exact c_readPar_w_at_119p (X := X) (k := k) (hP := hP) (d := d) (Vs := Vs) (sb := sb) (pb := pb) (hvb := hvb) (c0 := c0) (c1 := c1) (G := G) (A := A) (T := T) (lv := lv) (ln := ln) (li := li) (at0 := at0) (fk := fk) (nd := nd) (sy := sy) (na := na) (vi := vi) (le := le) (op0 := op0) (tk0 := tk0) (ec := ec) (hd := hd) (hW := hW) (e_ln := e_ln) (e_li := e_li) (e_at0 := e_at0) (e_fk := e_fk) (e_nd := e_nd) (e_sy := e_sy) (e_na := e_na) (e_vi := e_vi) (e_le := e_le) (e_op0 := e_op0) (e_tk0 := e_tk0) (e_ec := e_ec) (i_LT := i_LT) (i_SV := i_SV) (i_PQ := i_PQ) (h_lv := h_lv) (p_0 := p_0) (p_1 := p_1) (p_2 := p_2) (p_3 := p_3) (p_4 := p_4) (p_5 := p_5) (p_6 := p_6) (p_7 := p_7) (p_8 := p_8) (p_9 := p_9) (p_10 := p_10) L G98 A99 (n) (at2_100) (tk2_101) (fk2_102) (nd1) (op1) (sy1) (na1) (ec1) gL_0 gL_1 gL_2 hW103 hF111 hP112 hS113 hV114 ((e105)) ((e106)) ((e107)) (((hF104.1 31 rfl).trans (ex_nd1))) (((hF104.1 15 rfl).trans (ex_op1))) (((hF104.1 19 rfl).trans (ex_sy1))) (((hF104.1 28 rfl).trans (ex_na1))) (ec115) (((hF104.1 9 rfl).trans (fx_9))) (((hF104.1 29 rfl).trans (fx_29))) (by omega) (by omega) (by omega) (by omega) (by omega) (by omega) (by omega) (by omega) (by omega)
    · have _q : True := trivial
      exfalso
      omega
set_option maxRecDepth 20000 in
set_option maxHeartbeats 4000000 in
theorem c_readPar_w_at_109 {X : jX} {k : Nat} (hP : RPw X k) {d : Nat} {Vs : Nat → Prop} {sb pb : Int} (hvb : VB Vs sb) {c0 c1 : jC} {G : Nat → Int} {A : Nat → Nat → Int} {T : jH} {lv : Int} {ln li at0 fk nd sy na vi le op0 tk0 ec : Int} (hd : 8 * k + 82 ≤ d + 1) (hW : Wk G A) (e_ln : G 9 = ln) (e_li : G 3 = li) (e_at0 : G 10 = at0) (e_fk : G 16 = fk) (e_nd : G 31 = nd) (e_sy : G 19 = sy) (e_na : G 28 = na) (e_vi : G 29 = vi) (e_le : A 4 (ln).toNat = le) (e_op0 : G 15 = op0) (e_tk0 : G 11 = tk0) (e_ec : ecn A (G 31) = ec) (i_LT : LT G A) (i_SV : SV Vs sb G A) (i_PQ : PQ Vs sb pb G A) (h_lv : (-2147483648 : Int) ≤ lv ∧ lv ≤ 2147483647) (p_0 : 0 ≤ lv ∧ lv ≤ 15) (p_1 : 18 - lv ≤ ((k + 1 : Nat) : Int)) (p_2 : fk = 0) (p_3 : ln < li) (p_4 : at0 ≤ le) (p_5 : op0 = 0) (p_6 : nd ≤ 2 * at0 - tz tk0 + 30) (p_7 : sy ≤ na + 2) (p_8 : vi ≤ sy) (p_9 : sb = sy) (p_10 : 1 ≤ tk0) : ∀ (L : jL) (Gx : Nat → Int) (Ax : Nat → Nat → Int) (n at1 tk1 fk1 nd1 op1 sy1 na1 sa1 ka1 ec ec1 : Int), jGet L 0 = some (.ref 66) → jGet L 1 = some (.int (i32 (lv))) → jGet L 2 = some (.int (i32 n)) → Wk Gx Ax → Fr [9, 10, 11, 12, 13, 14, 15, 16, 17, 18, 19, 28, 29, 31] [6, 7, 8, 9, 10, 11, 12, 14, 15, 16, 17, 18, 19, 20, 21, 22, 23, 24, 28] G A Gx Ax → Pf nd A Ax → Fx sr (sy) A Ax → Fx [14] (vi) A Ax → Gx 10 = at1 → Gx 11 = tk1 → Gx 16 = fk1 → Gx 31 = nd1 → Gx 15 = op1 → Gx 19 = sy1 → Gx 28 = na1 → Ax 17 (n).toNat = sa1 → Ax 7 (sa1).toNat = ka1 → Ax 19 (n).toNat = ec → ecn Ax (Gx 31) = ec1 → Gx 9 = ln → Gx 29 = vi → ((-2147483648 : Int) ≤ n ∧ n ≤ 2147483647) → (fk1 = 0) → (at0 ≤ at1) → (at1 ≤ le) → (n = nd) → (n ≤ 6998 ∧ n < nd1) → (sy1 = sy + 1) → (sa1 = sy) → (sy1 ≤ na1 + 2) → (op1 = 0) → (nd1 - nd ≤ (2 * at1 - tz tk1) - (2 * at0 - tz tk0)) → (ka1 = 10) → (ND Ax (n) (29) (sa1) (0) (ec) (0) (0) (0)) → (0 ≤ ec) → (nd1 = n + 1) → (nd1 - nd + 5 * (ec1 - ec) ≤ (2 * at1 - tz tk1) - (2 * at0 - tz tk0)) → wj X d jm299 (109, L, [], rV c0 c1 Gx Ax T) (fun o V' => ∃ (G' : Nat → Int) (A' : Nat → Nat → Int) (r : Int) (ln2 : Int) (at2 : Int) (fk2 : Int) (nd2 : Int) (sy2 : Int) (na2 : Int) (vi2 : Int) (lf2 : Int) (ec2 : Int), V' = rV c0 c1 G' A' T ∧ o = .inl (some (.int (i32 r))) ∧ Wk G' A' ∧ Fr [9, 10, 11, 12, 13, 14, 15, 16, 17, 18, 19, 28, 29, 31] [6, 7, 8, 9, 10, 11, 12, 14, 15, 16, 17, 18, 19, 20, 21, 22, 23, 24, 28] G A G' A' ∧ Pf nd A A' ∧ Fx sr (sy) A A' ∧ Fx [14] (vi) A A' ∧ ((-2147483648 : Int) ≤ r ∧ r ≤ 2147483647) ∧ G' 9 = ln2 ∧ G' 10 = at2 ∧ G' 16 = fk2 ∧ G' 31 = nd2 ∧ G' 19 = sy2 ∧ G' 28 = na2 ∧ G' 29 = vi2 ∧ A' 3 (ln2).toNat = lf2 ∧ ecn A' (G' 31) = ec2 ∧ (at0 ≤ at2) ∧ (nd ≤ nd2) ∧ (sy ≤ sy2) ∧ (sy2 ≤ na2 + 2) ∧ (vi ≤ vi2) ∧ (vi2 ≤ vi + 1) ∧ (0 ≤ r) ∧ (r ≤ 6999) ∧ (ln ≤ ln2) ∧ (ln2 ≤ li) ∧ (((1 ≤ fk2) ∧ (nd2 - nd ≤ 2 * at2 - (2 * at0 - tz tk0) + 14)) ∨ ((fk2 = 0) ∧ (vi2 = vi) ∧ (ln < ln2) ∧ (nd2 - nd ≤ 2 * at2 - (2 * at0 - tz tk0)) ∧ (at2 < lf2 ∨ li ≤ ln2) ∧ (nd ≤ r) ∧ (r < nd2) ∧ (wSt A' (sy2) pb (wP A' (sy2) pb (k)) (Vs) (r) (nd) (nd2) (sy) (sy2)) ∧ (NX A' (r)) ∧ (nd2 - nd + 5 * (ec2 - ec) ≤ 2 * at2 - (2 * at0 - tz tk0)) ∧ (nd + 5 * ec ≤ r)))) := by
  have hF0 : Fr [9, 10, 11, 12, 13, 14, 15, 16, 17, 18, 19, 28, 29, 31] [6, 7, 8, 9, 10, 11, 12, 14, 15, 16, 17, 18, 19, 20, 21, 22, 23, 24, 28] G A G A := Fr_rf
  have hP0 : Pf nd A A := Pf_rf
  have hS0 : Fx sr (sy) A A := Fx_rf
  have hV0 : Fx [14] (vi) A A := Fx_rf
  have b_ln : (0 : Int) ≤ ln ∧ ln ≤ 3000 := e_ln ▸ hW.1 9
  have b_li : (0 : Int) ≤ li ∧ li ≤ 3000 := e_li ▸ hW.1 3
  have b_at0 : (0 : Int) ≤ at0 ∧ at0 ≤ 3002 := e_at0 ▸ hW.1 10
  have b_fk : (0 : Int) ≤ fk ∧ fk ≤ 6 := e_fk ▸ hW.1 16
  have b_nd : (0 : Int) ≤ nd ∧ nd ≤ 6999 := e_nd ▸ hW.1 31
  have b_sy : (0 : Int) ≤ sy ∧ sy ≤ 202 := e_sy ▸ hW.1 19
  have b_na : (0 : Int) ≤ na ∧ na ≤ 200 := e_na ▸ hW.1 28
  have b_vi : (0 : Int) ≤ vi ∧ vi ≤ 202 := e_vi ▸ hW.1 29
  have b_le : (0 : Int) ≤ le ∧ le ≤ 3000 := e_le ▸ hW.2 4 _
  have b_op0 : (-2147483648 : Int) ≤ op0 ∧ op0 ≤ 2147483647 := e_op0 ▸ hW.1 15
  have z_tk0 := tz_f tk0
  have b_tk0 : (0 : Int) ≤ tk0 ∧ tk0 ≤ 5 := e_tk0 ▸ hW.1 11
  intro L Gx Ax n at1 tk1 fk1 nd1 op1 sy1 na1 sa1 ka1 ec ec1 gL_0 gL_1 gL_2 hWx hFx hPx hSx hVx ex_at1 ex_tk1 ex_fk1 ex_nd1 ex_op1 ex_sy1 ex_na1 ex_sa1 ex_ka1 ex_ec ex_ec1 fx_9 fx_29 rx_n iv_0 iv_1 iv_2 iv_3 iv_4 iv_5 iv_6 iv_7 iv_8 iv_9 iv_10 iv_11 iv_12 iv_13 iv_14
  have b_at1 : (0 : Int) ≤ at1 ∧ at1 ≤ 3002 := ex_at1 ▸ hWx.1 10
  have z_tk1 := tz_f tk1
  have b_tk1 : (0 : Int) ≤ tk1 ∧ tk1 ≤ 5 := ex_tk1 ▸ hWx.1 11
  have b_fk1 : (0 : Int) ≤ fk1 ∧ fk1 ≤ 6 := ex_fk1 ▸ hWx.1 16
  have b_nd1 : (0 : Int) ≤ nd1 ∧ nd1 ≤ 6999 := ex_nd1 ▸ hWx.1 31
  have b_op1 : (-2147483648 : Int) ≤ op1 ∧ op1 ≤ 2147483647 := ex_op1 ▸ hWx.1 15
  have b_sy1 : (0 : Int) ≤ sy1 ∧ sy1 ≤ 202 := ex_sy1 ▸ hWx.1 19
  have b_na1 : (0 : Int) ≤ na1 ∧ na1 ≤ 200 := ex_na1 ▸ hWx.1 28
  refine jx_ld (pc' := 110) (l' := L) (st' := [.ref 66]) rfl (jl_aloadn gL_0) ?_
  refine jx_ld (pc' := 111) (l' := L) (st' := [.ref 66, .ref 66]) rfl (jl_aloadn gL_0) ?_
  refine jx_ar (pc' := 113) (st' := [.int (i32 (13)), .ref 66, .ref 66]) rfl rfl rfl rfl ?_
  have b125 : (-2147483648 : Int) ≤ Gx 13 ∧ Gx 13 ≤ 2147483647 := hWx.1 13
  refine jx_vr (pc' := 116) (as := [.int (i32 (13))]) (st := [.ref 66]) rfl rfl rfl rfl ⟨rfl, rfl, Nat.le_of_ble_eq_true rfl⟩ rfl rfl (c_isKey (dd := d) (hd := by omega) (hW := hWx) (k := 13) (tk := tk1) (e_tk := show Gx 11 = tk1 from (ex_tk1)) (tn := Gx 13) (e_tn := show Gx 13 = Gx 13 from rfl)  (h_k := ⟨(by decide), (by decide)⟩)  ) (fun o V' hq => ?_)
  obtain ⟨r126, rfl, rfl, b127, q128⟩ := hq
  refine .inr ⟨_, rfl, ?_⟩
  rcases q128 with ⟨rfl, a129, a130, a131⟩ | rfl
  · have _q : True := trivial
    refine jx_vr (pc' := 119) (as := [.int (i32 (1))]) (st := []) rfl rfl rfl rfl ⟨rfl, rfl, Nat.le_of_ble_eq_true rfl⟩ rfl rfl (c_need (dd := d) (hd := by omega) (hW := hWx) (g := 1) (ln := ln) (e_ln := show Gx 9 = ln from (fx_9)) (le := le) (e_le := show Ax 4 (ln).toNat = le from (congrFun (hFx.2 4 rfl) _).trans (e_le)) (at0 := at1) (e_at0 := show Gx 10 = at1 from (ex_at1)) (fk := fk1) (e_fk := show Gx 16 = fk1 from (ex_fk1)) (tk0 := tk1) (e_tk0 := show Gx 11 = tk1 from (ex_tk1))  (h_g := ⟨(by decide), (by decide)⟩)  (p_0 := by omega)) (fun o V' hq => ?_)
    obtain ⟨G132, A133, at2_134, tk2_135, fk2_136, rfl, rfl, hW137, hF138, e139, e140, e141, p142, p143, q144⟩ := hq
    have hF145 := Fr_tr hFx hF138 (Fr_sub (by decide)) (Fr_sub (by decide))
    have hP146 := Pf_f hPx hF138 (by decide)
    have hS147 := Fx_f hSx hF138 (by decide)
    have hV148 := Fx_f hVx hF138 (by decide)
    have sf149 : ND A133 (n) (29) (sa1) (0) (ec) (0) (0) (0) := ND_ag (by omega) (Ag_fr hF138 (by decide)) iv_11
    have ec150 : ecn A133 (G132 31) = ec1 := (ecn_f (hF138.2 15 rfl) (hF138.1 31 rfl)).trans ex_ec1
    have bat2_134 : (0 : Int) ≤ at2_134 ∧ at2_134 ≤ 3002 := e139 ▸ hW137.1 10
    have ztk2_135 := tz_b tk2_135
    have btk2_135 : (0 : Int) ≤ tk2_135 ∧ tk2_135 ≤ 5 := e140 ▸ hW137.1 11
    have bfk2_136 : (0 : Int) ≤ fk2_136 ∧ fk2_136 ≤ 6 := e141 ▸ hW137.1 16
    refine .inl ⟨rfl, ?_⟩
    rcases q144 with ⟨a151, a152, a153, a154⟩ | ⟨a155, a156, a157, a158⟩
    · have _q : True := trivial
      have z159 := tz_f (tk2_135)
      exact c_readPar_w_at_119p (X := X) (k := k) (hP := hP) (d := d) (Vs := Vs) (sb := sb) (pb := pb) (hvb := hvb) (c0 := c0) (c1 := c1) (G := G) (A := A) (T := T) (lv := lv) (ln := ln) (li := li) (at0 := at0) (fk := fk) (nd := nd) (sy := sy) (na := na) (vi := vi) (le := le) (op0 := op0) (tk0 := tk0) (ec := ec) (hd := hd) (hW := hW) (e_ln := e_ln) (e_li := e_li) (e_at0 := e_at0) (e_fk := e_fk) (e_nd := e_nd) (e_sy := e_sy) (e_na := e_na) (e_vi := e_vi) (e_le := e_le) (e_op0 := e_op0) (e_tk0 := e_tk0) (e_ec := e_ec) (i_LT := i_LT) (i_SV := i_SV) (i_PQ := i_PQ) (h_lv := h_lv) (p_0 := p_0) (p_1 := p_1) (p_2 := p_2) (p_3 := p_3) (p_4 := p_4) (p_5 := p_5) (p_6 := p_6) (p_7 := p_7) (p_8 := p_8) (p_9 := p_9) (p_10 := p_10) L G132 A133 (n) (at2_134) (tk2_135) (fk2_136) (nd1) (op1) (sy1) (na1) (ec1) gL_0 gL_1 gL_2 hW137 hF145 hP146 hS147 hV148 ((e139)) ((e140)) ((e141)) (((hF138.1 31 rfl).trans (ex_nd1))) (((hF138.1 15 rfl).trans (ex_op1))) (((hF138.1 19 rfl).trans (ex_sy1))) (((hF138.1 28 rfl).trans (ex_na1))) (ec150) (((hF138.1 9 rfl).trans (fx_9))) (((hF138.1 29 rfl).trans (fx_29))) (by omega) (by omega) (by omega) (by omega) (by omega) (by omega) (by omega) (by omega) (by omega)
    · have _q : True := trivial
      refine jx_ld (pc' := 120) (l' := L) (st' := [.ref 66]) rfl (jl_aloadn gL_0) ?_
      refine jr_get (pc' := 123) (i := 37) (v := .ref 87) rfl rfl (by decide) rfl rfl ?_
      refine jx_ld (pc' := 124) (l' := L) (st' := [.int (i32 (n)), .ref 87]) rfl (jl_iloadn gL_2) ?_
      refine jx_ld (pc' := 125) (l' := L) (st' := [.ref 66, .int (i32 (n)), .ref 87]) rfl (jl_aloadn gL_0) ?_
      refine jx_ar (pc' := 126) (st' := [.int (i32 (1)), .ref 66, .int (i32 (n)), .ref 87]) rfl rfl rfl rfl ?_
      refine jx_ar (pc' := 128) (st' := [.int (i32 (8)), .int (i32 (1)), .ref 66, .int (i32 (n)), .ref 87]) rfl rfl rfl rfl ?_
      refine jx_vr (pc' := 131) (as := [.int (i32 (1)), .int (i32 (8))]) (st := [.int (i32 (n)), .ref 87]) rfl rfl rfl rfl ⟨rfl, rfl, Nat.le_of_ble_eq_true rfl⟩ rfl rfl (c_needNumber (dd := d) (hd := by omega) (hW := hW137) (lo := 1) (hi := 8) (ln := ln) (e_ln := show G132 9 = ln from ((hF138.1 9 rfl).trans (fx_9))) (le := le) (e_le := show A133 4 (ln).toNat = le from (congrFun ((hF138.2 4 rfl).trans (hFx.2 4 rfl)) _).trans (e_le)) (at0 := at2_134) (e_at0 := show G132 10 = at2_134 from (e139)) (fk := fk2_136) (e_fk := show G132 16 = fk2_136 from (e141)) (tk0 := tk2_135) (e_tk0 := show G132 11 = tk2_135 from (e140))  (h_lo := ⟨(by decide), (by decide)⟩) (h_hi := ⟨(by decide), (by decide)⟩)  (p_0 := by omega)) (fun o V' hq => ?_)
      obtain ⟨G160, A161, r162, at2_163, tk2_164, fk2_165, rfl, rfl, hW166, hF167, b168, e169, e170, e171, p172, p173, q174⟩ := hq
      have hF175 := Fr_tr hF145 hF167 (Fr_sub (by decide)) (Fr_sub (by decide))
      have hP176 := Pf_f hP146 hF167 (by decide)
      have hS177 := Fx_f hS147 hF167 (by decide)
      have hV178 := Fx_f hV148 hF167 (by decide)
      have sf179 : ND A161 (n) (29) (sa1) (0) (ec) (0) (0) (0) := ND_ag (by omega) (Ag_fr hF167 (by decide)) sf149
      have ec180 : ecn A161 (G160 31) = ec1 := (ecn_f (hF167.2 15 rfl) (hF167.1 31 rfl)).trans ec150
      have bat2_163 : (0 : Int) ≤ at2_163 ∧ at2_163 ≤ 3002 := e169 ▸ hW166.1 10
      have ztk2_164 := tz_b tk2_164
      have btk2_164 : (0 : Int) ≤ tk2_164 ∧ tk2_164 ≤ 5 := e170 ▸ hW166.1 11
      have bfk2_165 : (0 : Int) ≤ fk2_165 ∧ fk2_165 ≤ 6 := e171 ▸ hW166.1 16
      refine .inr ⟨_, rfl, ?_⟩
      rcases q174 with ⟨a181, a182, a183, a184⟩ | ⟨a185, a186, a187, a188, a189⟩
      · have _q : True := trivial
        refine jr_st (pc' := 132) (i := 20) (m := 7000) (z := n) (y := r162) rfl (by decide) rfl (by decide) (by omega) (by omega) rfl ?_
        have hW191 : Wk G160 (uA A161 20 (n).toNat (r162)) := Wk_a hW166 (show (-2147483648 : Int) ≤ r162 by omega) (show r162 ≤ (2147483647 : Int) by omega)
        have hF192 := Fr_a (z := r162) (k := 20) (n := (n).toNat) hF175 (by decide)
        obtain ⟨A190, eA190⟩ : ∃ q, q = uA A161 20 (n).toNat (r162) := ⟨_, rfl⟩
        rw [← eA190]
        rw [← eA190] at hW191 hF192
        have q193 : A190 20 (n).toNat = r162 := by rw [eA190]; exact uA_eq
        have hP194 : Pf nd A A190 := eA190 ▸ Pf_a hP176 (z := n) (by omega) (by omega)
        have hS195 : Fx sr (sy) A A190 := eA190 ▸ Fx_n hS177 rfl
        have hV196 : Fx [14] (vi) A A190 := eA190 ▸ Fx_n hV178 rfl
        have sf197 : ND A190 (n) (29) (sa1) (0) (ec) (r162) (0) (0) := ND_d eA190 sf179
        have ec198 : ecn A190 (G160 31) = ec1 := (ecn_e ((congrFun eA190 15).trans (uA_ne (by decide)))).trans ec180
        have z199 := tz_f (tk2_164)
        exact c_readPar_w_at_132p (X := X) (k := k) (hP := hP) (d := d) (Vs := Vs) (sb := sb) (pb := pb) (hvb := hvb) (c0 := c0) (c1 := c1) (G := G) (A := A) (T := T) (lv := lv) (ln := ln) (li := li) (at0 := at0) (fk := fk) (nd := nd) (sy := sy) (na := na) (vi := vi) (le := le) (op0 := op0) (tk0 := tk0) (ec := ec) (hd := hd) (hW := hW) (e_ln := e_ln) (e_li := e_li) (e_at0 := e_at0) (e_fk := e_fk) (e_nd := e_nd) (e_sy := e_sy) (e_na := e_na) (e_vi := e_vi) (e_le := e_le) (e_op0 := e_op0) (e_tk0 := e_tk0) (e_ec := e_ec) (i_LT := i_LT) (i_SV := i_SV) (i_PQ := i_PQ) (h_lv := h_lv) (p_0 := p_0) (p_1 := p_1) (p_2 := p_2) (p_3 := p_3) (p_4 := p_4) (p_5 := p_5) (p_6 := p_6) (p_7 := p_7) (p_8 := p_8) (p_9 := p_9) (p_10 := p_10) L G160 A190 (n) (at2_163) (tk2_164) (fk2_165) (nd1) (op1) (sy1) (na1) (ec1) gL_0 gL_1 gL_2 hW191 hF192 hP194 hS195 hV196 ((e169)) ((e170)) ((e171)) (((hF167.1 31 rfl).trans ((hF138.1 31 rfl).trans (ex_nd1)))) (((hF167.1 15 rfl).trans ((hF138.1 15 rfl).trans (ex_op1)))) (((hF167.1 19 rfl).trans ((hF138.1 19 rfl).trans (ex_sy1)))) (((hF167.1 28 rfl).trans ((hF138.1 28 rfl).trans (ex_na1)))) (ec198) (((hF167.1 9 rfl).trans ((hF138.1 9 rfl).trans (fx_9)))) (((hF167.1 29 rfl).trans ((hF138.1 29 rfl).trans (fx_29)))) (by omega) (by omega) (by omega) (by omega) (by omega) (by omega) (by omega) (by omega) (by omega)
      · have _q : True := trivial
        refine jr_st (pc' := 132) (i := 20) (m := 7000) (z := n) (y := r162) rfl (by decide) rfl (by decide) (by omega) (by omega) rfl ?_
        have hW201 : Wk G160 (uA A161 20 (n).toNat (r162)) := Wk_a hW166 (show (-2147483648 : Int) ≤ r162 by omega) (show r162 ≤ (2147483647 : Int) by omega)
        have hF202 := Fr_a (z := r162) (k := 20) (n := (n).toNat) hF175 (by decide)
        obtain ⟨A200, eA200⟩ : ∃ q, q = uA A161 20 (n).toNat (r162) := ⟨_, rfl⟩
        rw [← eA200]
        rw [← eA200] at hW201 hF202
        have q203 : A200 20 (n).toNat = r162 := by rw [eA200]; exact uA_eq
        have hP204 : Pf nd A A200 := eA200 ▸ Pf_a hP176 (z := n) (by omega) (by omega)
        have hS205 : Fx sr (sy) A A200 := eA200 ▸ Fx_n hS177 rfl
        have hV206 : Fx [14] (vi) A A200 := eA200 ▸ Fx_n hV178 rfl
        have sf207 : ND A200 (n) (29) (sa1) (0) (ec) (r162) (0) (0) := ND_d eA200 sf179
        have ec208 : ecn A200 (G160 31) = ec1 := (ecn_e ((congrFun eA200 15).trans (uA_ne (by decide)))).trans ec180
        refine jx_ld (pc' := 133) (l' := L) (st' := [.ref 66]) rfl (jl_aloadn gL_0) ?_
        refine jx_vr (pc' := 136) (as := []) (st := []) rfl rfl rfl rfl ⟨rfl, rfl, Nat.le_of_ble_eq_true rfl⟩ rfl rfl (c_endLine (dd := d) (hd := by omega) (hW := hW201)  (ln := ln) (e_ln := show G160 9 = ln from ((hF167.1 9 rfl).trans ((hF138.1 9 rfl).trans (fx_9)))) (li := li) (e_li := show G160 3 = li from ((hF167.1 3 rfl).trans ((hF138.1 3 rfl).trans ((hFx.1 3 rfl).trans (e_li))))) (fk := fk2_165) (e_fk := show G160 16 = fk2_165 from (e171)) (tk0 := tk2_164) (e_tk0 := show G160 11 = tk2_164 from (e170))    (p_0 := by omega)) (fun o V' hq => ?_)
        obtain ⟨G209, A210, ln2_211, fk2_212, rfl, rfl, hW213, hF214, e215, e216, q217⟩ := hq
        have hF218 := Fr_tr hF202 hF214 (Fr_sub (by decide)) (Fr_sub (by decide))
        have hP219 := Pf_f hP204 hF214 (by decide)
        have hS220 := Fx_f hS205 hF214 (by decide)
        have hV221 := Fx_f hV206 hF214 (by decide)
        have sf222 : ND A210 (n) (29) (sa1) (0) (ec) (r162) (0) (0) := ND_ag (by omega) (Ag_fr hF214 (by decide)) sf207
        have ec223 : ecn A210 (G209 31) = ec1 := (ecn_f (hF214.2 15 rfl) (hF214.1 31 rfl)).trans ec208
        have bln2_211 : (0 : Int) ≤ ln2_211 ∧ ln2_211 ≤ 3000 := e215 ▸ hW213.1 9
        have bfk2_212 : (0 : Int) ≤ fk2_212 ∧ fk2_212 ≤ 6 := e216 ▸ hW213.1 16
        refine .inl ⟨rfl, ?_⟩
        rcases q217 with ⟨a224, a225, a226, a227, a228⟩ | ⟨a229, a230⟩
        · have _q : True := trivial
          have b231 : (0 : Int) ≤ A 3 (ln2_211).toNat ∧ A 3 (ln2_211).toNat ≤ 3000 := hW.2 3 _
          have lt232 : ln2_211 < li → le < A 3 (ln2_211).toNat := fun hh => LT_nx (LT_ext (((hF214.1 3 rfl).trans ((hF167.1 3 rfl).trans ((hF138.1 3 rfl).trans (hFx.1 3 rfl))))) (((hF214.2 3 rfl).trans (((congrFun eA200 3).trans (uA_ne (by decide))).trans ((hF167.2 3 rfl).trans ((hF138.2 3 rfl).trans (hFx.2 3 rfl)))))) (((hF214.2 4 rfl).trans (((congrFun eA200 4).trans (uA_ne (by decide))).trans ((hF167.2 4 rfl).trans ((hF138.2 4 rfl).trans (hFx.2 4 rfl)))))) i_LT) (show G209 3 = li from ((hF214.1 3 rfl).trans ((hF167.1 3 rfl).trans ((hF138.1 3 rfl).trans ((hFx.1 3 rfl).trans (e_li)))))) (show A210 4 (ln).toNat = le from (congrFun ((hF214.2 4 rfl).trans (((congrFun eA200 4).trans (uA_ne (by decide))).trans ((hF167.2 4 rfl).trans ((hF138.2 4 rfl).trans (hFx.2 4 rfl))))) _).trans (e_le)) (show A210 3 (ln2_211).toNat = A 3 (ln2_211).toNat from (congrFun ((hF214.2 3 rfl).trans (((congrFun eA200 3).trans (uA_ne (by decide))).trans ((hF167.2 3 rfl).trans ((hF138.2 3 rfl).trans (hFx.2 3 rfl))))) _)) (show ln2_211 = ln + 1 by omega) (by omega) hh
          refine jx_ld (pc' := 137) (l' := L) (st' := [.ref 66]) rfl (jl_aloadn gL_0) ?_
          refine jx_ld (pc' := 138) (l' := L) (st' := [.int (i32 (n)), .ref 66]) rfl (jl_iloadn gL_2) ?_
          refine jx_ld (pc' := 139) (l' := L) (st' := [.int (i32 (lv)), .int (i32 (n)), .ref 66]) rfl (jl_iloadn gL_1) ?_
          refine jx_vr (pc' := 142) (as := [.int (i32 (n)), .int (i32 (lv))]) (st := []) rfl rfl rfl rfl ⟨rfl, rfl, Nat.le_of_ble_eq_true rfl⟩ rfl rfl (c_readIndexed_w (dd := d) (hP := hP) (zz := nd) (hd := by omega) (hW := hW213) (n := n) (lv := lv) (kk := 29) (bb := 0) (cc := ec) (de := r162) (xx := 0) (ln := ln2_211) (e_ln := show G209 9 = ln2_211 from (e215)) (li := li) (e_li := show G209 3 = li from ((hF214.1 3 rfl).trans ((hF167.1 3 rfl).trans ((hF138.1 3 rfl).trans ((hFx.1 3 rfl).trans (e_li)))))) (at0 := at2_163) (e_at0 := show G209 10 = at2_163 from ((hF214.1 10 rfl).trans (e169))) (fk := fk2_212) (e_fk := show G209 16 = fk2_212 from (e216)) (nd := nd1) (e_nd := show G209 31 = nd1 from ((hF214.1 31 rfl).trans ((hF167.1 31 rfl).trans ((hF138.1 31 rfl).trans (ex_nd1))))) (sy := sy1) (e_sy := show G209 19 = sy1 from ((hF214.1 19 rfl).trans ((hF167.1 19 rfl).trans ((hF138.1 19 rfl).trans (ex_sy1))))) (na := na1) (e_na := show G209 28 = na1 from ((hF214.1 28 rfl).trans ((hF167.1 28 rfl).trans ((hF138.1 28 rfl).trans (ex_na1))))) (vi := vi) (e_vi := show G209 29 = vi from ((hF214.1 29 rfl).trans ((hF167.1 29 rfl).trans ((hF138.1 29 rfl).trans (fx_29))))) (lf := A 3 (ln2_211).toNat) (e_lf := show A210 3 (ln2_211).toNat = A 3 (ln2_211).toNat from (congrFun ((hF214.2 3 rfl).trans (((congrFun eA200 3).trans (uA_ne (by decide))).trans ((hF167.2 3 rfl).trans ((hF138.2 3 rfl).trans (hFx.2 3 rfl))))) _)) (sa := sa1) (e_sa := show A210 17 (n).toNat = sa1 from (congrFun ((hF214.2 17 rfl).trans (((congrFun eA200 17).trans (uA_ne (by decide))).trans ((hF167.2 17 rfl).trans (hF138.2 17 rfl)))) _).trans (ex_sa1)) (ksa := ka1) (e_ksa := show A210 7 (sa1).toNat = ka1 from (congrFun ((hF214.2 7 rfl).trans (((congrFun eA200 7).trans (uA_ne (by decide))).trans ((hF167.2 7 rfl).trans (hF138.2 7 rfl)))) _).trans (ex_ka1)) (ec := ec1) (e_ec := show ecn A210 (G209 31) = ec1 from ec223) (i_LT := (LT_ext (((hF214.1 3 rfl).trans ((hF167.1 3 rfl).trans ((hF138.1 3 rfl).trans (hFx.1 3 rfl))))) (((hF214.2 3 rfl).trans (((congrFun eA200 3).trans (uA_ne (by decide))).trans ((hF167.2 3 rfl).trans ((hF138.2 3 rfl).trans (hFx.2 3 rfl)))))) (((hF214.2 4 rfl).trans (((congrFun eA200 4).trans (uA_ne (by decide))).trans ((hF167.2 4 rfl).trans ((hF138.2 4 rfl).trans (hFx.2 4 rfl)))))) i_LT)) (i_SV := (SV_fx i_SV e_vi (show G209 29 = vi from ((hF214.1 29 rfl).trans ((hF167.1 29 rfl).trans ((hF138.1 29 rfl).trans (fx_29))))) (by omega) hV221)) (i_PQ := (PQ_fx i_PQ hS220 (by omega) (hF218.2 29 rfl) (hF218.2 30 rfl))) (hvb := hvb) (h_n := ⟨(Int.le_trans (by decide : (-2147483648 : Int) ≤ -2147483648) rx_n.1), (Int.le_trans rx_n.2 (by decide : (2147483647 : Int) ≤ 2147483647))⟩) (h_lv := ⟨(Int.le_trans (by decide : (-2147483648 : Int) ≤ -2147483648) h_lv.1), (Int.le_trans h_lv.2 (by decide : (2147483647 : Int) ≤ 2147483647))⟩)  (p_0 := by omega) (p_1 := by omega) (p_2 := by omega) (p_3 := by omega) (p_4 := by omega) (p_5 := by omega) (p_6 := by omega) (p_7 := by omega) (p_8 := by omega) (p_9 := by omega) (p_10 := by omega) (p_11 := by omega) (p_12 := by omega) (p_13 := by omega) (p_14 := by omega) (p_15 := by omega) (p_16 := sf222)) (fun o V' hq => ?_)
          obtain ⟨G233, A234, ln2_235, at2_236, fk2_237, nd2_238, sy2_239, na2_240, vi2_241, lf2_242, f2_243, ec2_244, rfl, rfl, hW245, hF246, hQ247, hQ248, hQ249, hQ250, e251, e252, e253, e254, e255, e256, e257, e258, e259, e260, p261, p262, p263, p264, p265, p266, p267, q268⟩ := hq
          have hF269 := Fr_tr hF218 hF246 (Fr_sub (by decide)) (Fr_sub (by decide))
          have hP270 := Pf_tr hP219 hQ247 (by omega)
          have hS271 := Fx_tr hS220 hQ249 (by omega)
          have hV272 := Fx_tr hV221 hQ250 (by omega)
          have k273 : A234 7 (sa1).toNat = ka1 := (hQ249 7 _ rfl (by omega)).trans (show A210 7 (sa1).toNat = ka1 from (congrFun ((hF214.2 7 rfl).trans (((congrFun eA200 7).trans (uA_ne (by decide))).trans ((hF167.2 7 rfl).trans (hF138.2 7 rfl)))) _).trans (ex_ka1))
          have bln2_235 : (0 : Int) ≤ ln2_235 ∧ ln2_235 ≤ 3000 := e251 ▸ hW245.1 9
          have bat2_236 : (0 : Int) ≤ at2_236 ∧ at2_236 ≤ 3002 := e252 ▸ hW245.1 10
          have bfk2_237 : (0 : Int) ≤ fk2_237 ∧ fk2_237 ≤ 6 := e253 ▸ hW245.1 16
          have bnd2_238 : (0 : Int) ≤ nd2_238 ∧ nd2_238 ≤ 6999 := e254 ▸ hW245.1 31
          have bsy2_239 : (0 : Int) ≤ sy2_239 ∧ sy2_239 ≤ 202 := e255 ▸ hW245.1 19
          have bna2_240 : (0 : Int) ≤ na2_240 ∧ na2_240 ≤ 200 := e256 ▸ hW245.1 28
          have bvi2_241 : (0 : Int) ≤ vi2_241 ∧ vi2_241 ≤ 202 := e257 ▸ hW245.1 29
          have blf2_242 : (0 : Int) ≤ lf2_242 ∧ lf2_242 ≤ 3000 := e258 ▸ hW245.2 3 _
          have bf2_243 : (-2147483648 : Int) ≤ f2_243 ∧ f2_243 ≤ 2147483647 := e259 ▸ hW245.2 21 _
          refine .inr ⟨_, rfl, ?_⟩
          rcases q268 with ⟨a274, a275⟩ | ⟨a276, a277, a278, a279, a280, a281, a282⟩
          · have _q : True := trivial
            refine jx_rt (v := some (.int (i32 (n)))) rfl rfl rfl rfl rfl rfl ?_
            exact ⟨_, _, _, ln2_235, at2_236, fk2_237, nd2_238, sy2_239, na2_240, vi2_241, lf2_242, ec2_244, rfl, rfl, hW245, hF269, hP270, hS271, hV272, by omega, (e251), (e252), (e253), (e254), (e255), (e256), (e257), (e258), e260, by omega, by omega, by omega, by omega, by omega, by omega, by omega, by omega, by omega, by omega, by first | exact Or.inl (⟨by omega, by omega⟩)⟩
          · have _q : True := trivial
            refine jx_rt (v := some (.int (i32 (n)))) rfl rfl rfl rfl rfl rfl ?_
            exact ⟨_, _, _, ln2_235, at2_236, fk2_237, nd2_238, sy2_239, na2_240, vi2_241, lf2_242, ec2_244, rfl, rfl, hW245, hF269, hP270, hS271, hV272, by omega, (e251), (e252), (e253), (e254), (e255), (e256), (e257), (e258), e260, by omega, by omega, by omega, by omega, by omega, by omega, by omega, by omega, by omega, by omega, by first | exact Or.inr ((⟨by omega, by omega, by omega, by omega, by omega, by omega, by omega, (wS_parfor (ND_ae a280 (by omega : sa1 = sy)) (by omega) (by rw [← (by omega : sa1 = sy)]; exact (show A234 7 (sa1).toNat = ka1 from (k273)).trans (by omega)) (by omega) (by omega) (by omega) (by omega) (wP_vu (by omega : sa1 = sy) (wP_eq a281 (by omega) rfl (by omega) (by omega) (by omega) (by omega) (by omega) (by omega)))), (NX_nd a280), by omega, by omega⟩))⟩
        · have _q : True := trivial
          refine jx_ld (pc' := 137) (l' := L) (st' := [.ref 66]) rfl (jl_aloadn gL_0) ?_
          refine jx_ld (pc' := 138) (l' := L) (st' := [.int (i32 (n)), .ref 66]) rfl (jl_iloadn gL_2) ?_
          refine jx_ld (pc' := 139) (l' := L) (st' := [.int (i32 (lv)), .int (i32 (n)), .ref 66]) rfl (jl_iloadn gL_1) ?_
          refine jx_vr (pc' := 142) (as := [.int (i32 (n)), .int (i32 (lv))]) (st := []) rfl rfl rfl rfl ⟨rfl, rfl, Nat.le_of_ble_eq_true rfl⟩ rfl rfl (c_readIndexed_f (dd := d) (hd := by omega) (hW := hW213) (n := n) (lv := lv) (fk := fk2_212) (e_fk := show G209 16 = fk2_212 from (e216))  (h_n := ⟨(Int.le_trans (by decide : (-2147483648 : Int) ≤ -2147483648) rx_n.1), (Int.le_trans rx_n.2 (by decide : (2147483647 : Int) ≤ 2147483647))⟩) (h_lv := ⟨(Int.le_trans (by decide : (-2147483648 : Int) ≤ -2147483648) h_lv.1), (Int.le_trans h_lv.2 (by decide : (2147483647 : Int) ≤ 2147483647))⟩)  (p_0 := by omega)) (fun o V' hq => ?_)
          obtain ⟨r283, rfl, rfl, b284, p285, -⟩ := hq
          refine .inr ⟨_, rfl, ?_⟩
          refine jx_rt (v := some (.int (i32 (r283)))) rfl rfl rfl rfl rfl rfl ?_
          exact ⟨_, _, _, ln2_211, at2_163, fk2_212, nd1, sy1, na1, vi, A 3 (ln2_211).toNat, ec1, rfl, rfl, hW213, hF218, hP219, hS220, hV221, by omega, (e215), ((hF214.1 10 rfl).trans (e169)), (e216), ((hF214.1 31 rfl).trans ((hF167.1 31 rfl).trans ((hF138.1 31 rfl).trans (ex_nd1)))), ((hF214.1 19 rfl).trans ((hF167.1 19 rfl).trans ((hF138.1 19 rfl).trans (ex_sy1)))), ((hF214.1 28 rfl).trans ((hF167.1 28 rfl).trans ((hF138.1 28 rfl).trans (ex_na1)))), ((hF214.1 29 rfl).trans ((hF167.1 29 rfl).trans ((hF138.1 29 rfl).trans (fx_29)))), (congrFun ((hF214.2 3 rfl).trans (((congrFun eA200 3).trans (uA_ne (by decide))).trans ((hF167.2 3 rfl).trans ((hF138.2 3 rfl).trans (hFx.2 3 rfl))))) _), ec223, by omega, by omega, by omega, by omega, by omega, by omega, by omega, by omega, by omega, by omega, by first | exact Or.inl (⟨by omega, by omega⟩)⟩
  · have _q : True := trivial
    refine jx_vr (pc' := 119) (as := [.int (i32 (0))]) (st := []) rfl rfl rfl rfl ⟨rfl, rfl, Nat.le_of_ble_eq_true rfl⟩ rfl rfl (c_need (dd := d) (hd := by omega) (hW := hWx) (g := 0) (ln := ln) (e_ln := show Gx 9 = ln from (fx_9)) (le := le) (e_le := show Ax 4 (ln).toNat = le from (congrFun (hFx.2 4 rfl) _).trans (e_le)) (at0 := at1) (e_at0 := show Gx 10 = at1 from (ex_at1)) (fk := fk1) (e_fk := show Gx 16 = fk1 from (ex_fk1)) (tk0 := tk1) (e_tk0 := show Gx 11 = tk1 from (ex_tk1))  (h_g := ⟨(by decide), (by decide)⟩)  (p_0 := by omega)) (fun o V' hq => ?_)
    obtain ⟨G287, A288, at2_289, tk2_290, fk2_291, rfl, rfl, hW292, hF293, e294, e295, e296, p297, p298, q299⟩ := hq
    have hF300 := Fr_tr hFx hF293 (Fr_sub (by decide)) (Fr_sub (by decide))
    have hP301 := Pf_f hPx hF293 (by decide)
    have hS302 := Fx_f hSx hF293 (by decide)
    have hV303 := Fx_f hVx hF293 (by decide)
    have sf304 : ND A288 (n) (29) (sa1) (0) (ec) (0) (0) (0) := ND_ag (by omega) (Ag_fr hF293 (by decide)) iv_11
    have ec305 : ecn A288 (G287 31) = ec1 := (ecn_f (hF293.2 15 rfl) (hF293.1 31 rfl)).trans ex_ec1
    have bat2_289 : (0 : Int) ≤ at2_289 ∧ at2_289 ≤ 3002 := e294 ▸ hW292.1 10
    have ztk2_290 := tz_b tk2_290
    have btk2_290 : (0 : Int) ≤ tk2_290 ∧ tk2_290 ≤ 5 := e295 ▸ hW292.1 11
    have bfk2_291 : (0 : Int) ≤ fk2_291 ∧ fk2_291 ≤ 6 := e296 ▸ hW292.1 16
    refine .inl ⟨rfl, ?_⟩
    rcases q299 with ⟨a306, a307, a308, a309⟩ | ⟨a310, a311, a312, a313⟩
    · have _q : True := trivial
      have z314 := tz_f (tk2_290)
      exact c_readPar_w_at_119p (X := X) (k := k) (hP := hP) (d := d) (Vs := Vs) (sb := sb) (pb := pb) (hvb := hvb) (c0 := c0) (c1 := c1) (G := G) (A := A) (T := T) (lv := lv) (ln := ln) (li := li) (at0 := at0) (fk := fk) (nd := nd) (sy := sy) (na := na) (vi := vi) (le := le) (op0 := op0) (tk0 := tk0) (ec := ec) (hd := hd) (hW := hW) (e_ln := e_ln) (e_li := e_li) (e_at0 := e_at0) (e_fk := e_fk) (e_nd := e_nd) (e_sy := e_sy) (e_na := e_na) (e_vi := e_vi) (e_le := e_le) (e_op0 := e_op0) (e_tk0 := e_tk0) (e_ec := e_ec) (i_LT := i_LT) (i_SV := i_SV) (i_PQ := i_PQ) (h_lv := h_lv) (p_0 := p_0) (p_1 := p_1) (p_2 := p_2) (p_3 := p_3) (p_4 := p_4) (p_5 := p_5) (p_6 := p_6) (p_7 := p_7) (p_8 := p_8) (p_9 := p_9) (p_10 := p_10) L G287 A288 (n) (at2_289) (tk2_290) (fk2_291) (nd1) (op1) (sy1) (na1) (ec1) gL_0 gL_1 gL_2 hW292 hF300 hP301 hS302 hV303 ((e294)) ((e295)) ((e296)) (((hF293.1 31 rfl).trans (ex_nd1))) (((hF293.1 15 rfl).trans (ex_op1))) (((hF293.1 19 rfl).trans (ex_sy1))) (((hF293.1 28 rfl).trans (ex_na1))) (ec305) (((hF293.1 9 rfl).trans (fx_9))) (((hF293.1 29 rfl).trans (fx_29))) (by omega) (by omega) (by omega) (by omega) (by omega) (by omega) (by omega) (by omega) (by omega)
    · have _q : True := trivial
      exfalso
      omega
set_option maxRecDepth 20000 in
set_option maxHeartbeats 4000000 in
theorem c_readPar_w_at_95p {X : jX} {k : Nat} (hP : RPw X k) {d : Nat} {Vs : Nat → Prop} {sb pb : Int} (hvb : VB Vs sb) {c0 c1 : jC} {G : Nat → Int} {A : Nat → Nat → Int} {T : jH} {lv : Int} {ln li at0 fk nd sy na vi le op0 tk0 ec : Int} (hd : 8 * k + 82 ≤ d + 1) (hW : Wk G A) (e_ln : G 9 = ln) (e_li : G 3 = li) (e_at0 : G 10 = at0) (e_fk : G 16 = fk) (e_nd : G 31 = nd) (e_sy : G 19 = sy) (e_na : G 28 = na) (e_vi : G 29 = vi) (e_le : A 4 (ln).toNat = le) (e_op0 : G 15 = op0) (e_tk0 : G 11 = tk0) (e_ec : ecn A (G 31) = ec) (i_LT : LT G A) (i_SV : SV Vs sb G A) (i_PQ : PQ Vs sb pb G A) (h_lv : (-2147483648 : Int) ≤ lv ∧ lv ≤ 2147483647) (p_0 : 0 ≤ lv ∧ lv ≤ 15) (p_1 : 18 - lv ≤ ((k + 1 : Nat) : Int)) (p_2 : fk = 0) (p_3 : ln < li) (p_4 : at0 ≤ le) (p_5 : op0 = 0) (p_6 : nd ≤ 2 * at0 - tz tk0 + 30) (p_7 : sy ≤ na + 2) (p_8 : vi ≤ sy) (p_9 : sb = sy) (p_10 : 1 ≤ tk0) : ∀ (L : jL) (Gx : Nat → Int) (Ax : Nat → Nat → Int) (n at1 tk1 fk1 nd1 op1 sy1 na1 ec1 : Int), jGet L 0 = some (.ref 66) → jGet L 1 = some (.int (i32 (lv))) → jGet L 2 = some (.int (i32 n)) → Wk Gx Ax → Fr [9, 10, 11, 12, 13, 14, 15, 16, 17, 18, 19, 28, 29, 31] [6, 7, 8, 9, 10, 11, 12, 14, 15, 16, 17, 18, 19, 20, 21, 22, 23, 24, 28] G A Gx Ax → Pf nd A Ax → Fx sr (sy) A Ax → Fx [14] (vi) A Ax → Gx 10 = at1 → Gx 11 = tk1 → Gx 16 = fk1 → Gx 31 = nd1 → Gx 15 = op1 → Gx 19 = sy1 → Gx 28 = na1 → ecn Ax (Gx 31) = ec1 → Gx 9 = ln → Gx 29 = vi → ((-2147483648 : Int) ≤ n ∧ n ≤ 2147483647) → (1 ≤ fk1) → (at0 ≤ at1) → (at1 ≤ le) → (nd ≤ n ∧ n ≤ 6998 ∧ n < nd1) → (sy ≤ sy1) → (sy1 ≤ na1 + 2) → (0 ≤ op1 ∧ op1 ≤ 9) → (nd1 - nd ≤ 2 * at1 - 2 * at0 + 8) → wj X d jm299 (95, L, [], rV c0 c1 Gx Ax T) (fun o V' => ∃ (G' : Nat → Int) (A' : Nat → Nat → Int) (r : Int) (ln2 : Int) (at2 : Int) (fk2 : Int) (nd2 : Int) (sy2 : Int) (na2 : Int) (vi2 : Int) (lf2 : Int) (ec2 : Int), V' = rV c0 c1 G' A' T ∧ o = .inl (some (.int (i32 r))) ∧ Wk G' A' ∧ Fr [9, 10, 11, 12, 13, 14, 15, 16, 17, 18, 19, 28, 29, 31] [6, 7, 8, 9, 10, 11, 12, 14, 15, 16, 17, 18, 19, 20, 21, 22, 23, 24, 28] G A G' A' ∧ Pf nd A A' ∧ Fx sr (sy) A A' ∧ Fx [14] (vi) A A' ∧ ((-2147483648 : Int) ≤ r ∧ r ≤ 2147483647) ∧ G' 9 = ln2 ∧ G' 10 = at2 ∧ G' 16 = fk2 ∧ G' 31 = nd2 ∧ G' 19 = sy2 ∧ G' 28 = na2 ∧ G' 29 = vi2 ∧ A' 3 (ln2).toNat = lf2 ∧ ecn A' (G' 31) = ec2 ∧ (at0 ≤ at2) ∧ (nd ≤ nd2) ∧ (sy ≤ sy2) ∧ (sy2 ≤ na2 + 2) ∧ (vi ≤ vi2) ∧ (vi2 ≤ vi + 1) ∧ (0 ≤ r) ∧ (r ≤ 6999) ∧ (ln ≤ ln2) ∧ (ln2 ≤ li) ∧ (((1 ≤ fk2) ∧ (nd2 - nd ≤ 2 * at2 - (2 * at0 - tz tk0) + 14)) ∨ ((fk2 = 0) ∧ (vi2 = vi) ∧ (ln < ln2) ∧ (nd2 - nd ≤ 2 * at2 - (2 * at0 - tz tk0)) ∧ (at2 < lf2 ∨ li ≤ ln2) ∧ (nd ≤ r) ∧ (r < nd2) ∧ (wSt A' (sy2) pb (wP A' (sy2) pb (k)) (Vs) (r) (nd) (nd2) (sy) (sy2)) ∧ (NX A' (r)) ∧ (nd2 - nd + 5 * (ec2 - ec) ≤ 2 * at2 - (2 * at0 - tz tk0)) ∧ (nd + 5 * ec ≤ r)))) := by
  have hF0 : Fr [9, 10, 11, 12, 13, 14, 15, 16, 17, 18, 19, 28, 29, 31] [6, 7, 8, 9, 10, 11, 12, 14, 15, 16, 17, 18, 19, 20, 21, 22, 23, 24, 28] G A G A := Fr_rf
  have hP0 : Pf nd A A := Pf_rf
  have hS0 : Fx sr (sy) A A := Fx_rf
  have hV0 : Fx [14] (vi) A A := Fx_rf
  have b_ln : (0 : Int) ≤ ln ∧ ln ≤ 3000 := e_ln ▸ hW.1 9
  have b_li : (0 : Int) ≤ li ∧ li ≤ 3000 := e_li ▸ hW.1 3
  have b_at0 : (0 : Int) ≤ at0 ∧ at0 ≤ 3002 := e_at0 ▸ hW.1 10
  have b_fk : (0 : Int) ≤ fk ∧ fk ≤ 6 := e_fk ▸ hW.1 16
  have b_nd : (0 : Int) ≤ nd ∧ nd ≤ 6999 := e_nd ▸ hW.1 31
  have b_sy : (0 : Int) ≤ sy ∧ sy ≤ 202 := e_sy ▸ hW.1 19
  have b_na : (0 : Int) ≤ na ∧ na ≤ 200 := e_na ▸ hW.1 28
  have b_vi : (0 : Int) ≤ vi ∧ vi ≤ 202 := e_vi ▸ hW.1 29
  have b_le : (0 : Int) ≤ le ∧ le ≤ 3000 := e_le ▸ hW.2 4 _
  have b_op0 : (-2147483648 : Int) ≤ op0 ∧ op0 ≤ 2147483647 := e_op0 ▸ hW.1 15
  have z_tk0 := tz_f tk0
  have b_tk0 : (0 : Int) ≤ tk0 ∧ tk0 ≤ 5 := e_tk0 ▸ hW.1 11
  intro L Gx Ax n at1 tk1 fk1 nd1 op1 sy1 na1 ec1 gL_0 gL_1 gL_2 hWx hFx hPx hSx hVx ex_at1 ex_tk1 ex_fk1 ex_nd1 ex_op1 ex_sy1 ex_na1 ex_ec1 fx_9 fx_29 rx_n iv_0 iv_1 iv_2 iv_3 iv_4 iv_5 iv_6 iv_7
  have b_at1 : (0 : Int) ≤ at1 ∧ at1 ≤ 3002 := ex_at1 ▸ hWx.1 10
  have z_tk1 := tz_f tk1
  have b_tk1 : (0 : Int) ≤ tk1 ∧ tk1 ≤ 5 := ex_tk1 ▸ hWx.1 11
  have b_fk1 : (0 : Int) ≤ fk1 ∧ fk1 ≤ 6 := ex_fk1 ▸ hWx.1 16
  have b_nd1 : (0 : Int) ≤ nd1 ∧ nd1 ≤ 6999 := ex_nd1 ▸ hWx.1 31
  have b_op1 : (-2147483648 : Int) ≤ op1 ∧ op1 ≤ 2147483647 := ex_op1 ▸ hWx.1 15
  have b_sy1 : (0 : Int) ≤ sy1 ∧ sy1 ≤ 202 := ex_sy1 ▸ hWx.1 19
  have b_na1 : (0 : Int) ≤ na1 ∧ na1 ≤ 200 := ex_na1 ▸ hWx.1 28
  refine jx_ld (pc' := 96) (l' := L) (st' := [.ref 66]) rfl (jl_aloadn gL_0) ?_
  refine jr_get (pc' := 99) (i := 36) (v := .ref 86) rfl rfl (by decide) rfl rfl ?_
  refine jx_ld (pc' := 100) (l' := L) (st' := [.int (i32 (n)), .ref 86]) rfl (jl_iloadn gL_2) ?_
  refine jx_ld (pc' := 101) (l' := L) (st' := [.ref 66, .int (i32 (n)), .ref 86]) rfl (jl_aloadn gL_0) ?_
  refine jx_ar (pc' := 102) (st' := [.int (i32 (0)), .ref 66, .int (i32 (n)), .ref 86]) rfl rfl rfl rfl ?_
  refine jx_hp (pc' := 105) (st' := [.int (i32 (2147483647)), .int (i32 (0)), .ref 66, .int (i32 (n)), .ref 86]) rfl rfl rfl rfl rfl rfl ?_
  refine jx_vr (pc' := 108) (as := [.int (i32 (0)), .int (i32 (2147483647))]) (st := [.int (i32 (n)), .ref 86]) rfl rfl rfl rfl ⟨rfl, rfl, Nat.le_of_ble_eq_true rfl⟩ rfl rfl (c_needNumber (dd := d) (hd := by omega) (hW := hWx) (lo := 0) (hi := 2147483647) (ln := ln) (e_ln := show Gx 9 = ln from (fx_9)) (le := le) (e_le := show Ax 4 (ln).toNat = le from (congrFun (hFx.2 4 rfl) _).trans (e_le)) (at0 := at1) (e_at0 := show Gx 10 = at1 from (ex_at1)) (fk := fk1) (e_fk := show Gx 16 = fk1 from (ex_fk1)) (tk0 := tk1) (e_tk0 := show Gx 11 = tk1 from (ex_tk1))  (h_lo := ⟨(by decide), (by decide)⟩) (h_hi := ⟨(by decide), (by decide)⟩)  (p_0 := by omega)) (fun o V' hq => ?_)
  obtain ⟨G315, A316, r317, at2_318, tk2_319, fk2_320, rfl, rfl, hW321, hF322, b323, e324, e325, e326, p327, p328, q329⟩ := hq
  have hF330 := Fr_tr hFx hF322 (Fr_sub (by decide)) (Fr_sub (by decide))
  have hP331 := Pf_f hPx hF322 (by decide)
  have hS332 := Fx_f hSx hF322 (by decide)
  have hV333 := Fx_f hVx hF322 (by decide)
  have ec334 : ecn A316 (G315 31) = ec1 := (ecn_f (hF322.2 15 rfl) (hF322.1 31 rfl)).trans ex_ec1
  have bat2_318 : (0 : Int) ≤ at2_318 ∧ at2_318 ≤ 3002 := e324 ▸ hW321.1 10
  have ztk2_319 := tz_b tk2_319
  have btk2_319 : (0 : Int) ≤ tk2_319 ∧ tk2_319 ≤ 5 := e325 ▸ hW321.1 11
  have bfk2_320 : (0 : Int) ≤ fk2_320 ∧ fk2_320 ≤ 6 := e326 ▸ hW321.1 16
  refine .inr ⟨_, rfl, ?_⟩
  rcases q329 with ⟨a335, a336, a337, a338⟩ | ⟨a339, a340, a341, a342, a343⟩
  · have _q : True := trivial
    refine jr_st (pc' := 109) (i := 19) (m := 7000) (z := n) (y := r317) rfl (by decide) rfl (by decide) (by omega) (by omega) rfl ?_
    have hW345 : Wk G315 (uA A316 19 (n).toNat (r317)) := Wk_a hW321 (show (-2147483648 : Int) ≤ r317 by omega) (show r317 ≤ (2147483647 : Int) by omega)
    have hF346 := Fr_a (z := r317) (k := 19) (n := (n).toNat) hF330 (by decide)
    obtain ⟨A344, eA344⟩ : ∃ q, q = uA A316 19 (n).toNat (r317) := ⟨_, rfl⟩
    rw [← eA344]
    rw [← eA344] at hW345 hF346
    have q347 : A344 19 (n).toNat = r317 := by rw [eA344]; exact uA_eq
    have hP348 : Pf nd A A344 := eA344 ▸ Pf_a hP331 (z := n) (by omega) (by omega)
    have hS349 : Fx sr (sy) A A344 := eA344 ▸ Fx_n hS332 rfl
    have hV350 : Fx [14] (vi) A A344 := eA344 ▸ Fx_n hV333 rfl
    have ec351 : ecn A344 (G315 31) = ec1 := (ecn_e ((congrFun eA344 15).trans (uA_ne (by decide)))).trans ec334
    have z352 := tz_f (tk2_319)
    exact c_readPar_w_at_109p (X := X) (k := k) (hP := hP) (d := d) (Vs := Vs) (sb := sb) (pb := pb) (hvb := hvb) (c0 := c0) (c1 := c1) (G := G) (A := A) (T := T) (lv := lv) (ln := ln) (li := li) (at0 := at0) (fk := fk) (nd := nd) (sy := sy) (na := na) (vi := vi) (le := le) (op0 := op0) (tk0 := tk0) (ec := ec) (hd := hd) (hW := hW) (e_ln := e_ln) (e_li := e_li) (e_at0 := e_at0) (e_fk := e_fk) (e_nd := e_nd) (e_sy := e_sy) (e_na := e_na) (e_vi := e_vi) (e_le := e_le) (e_op0 := e_op0) (e_tk0 := e_tk0) (e_ec := e_ec) (i_LT := i_LT) (i_SV := i_SV) (i_PQ := i_PQ) (h_lv := h_lv) (p_0 := p_0) (p_1 := p_1) (p_2 := p_2) (p_3 := p_3) (p_4 := p_4) (p_5 := p_5) (p_6 := p_6) (p_7 := p_7) (p_8 := p_8) (p_9 := p_9) (p_10 := p_10) L G315 A344 (n) (at2_318) (tk2_319) (fk2_320) (nd1) (op1) (sy1) (na1) (ec1) gL_0 gL_1 gL_2 hW345 hF346 hP348 hS349 hV350 ((e324)) ((e325)) ((e326)) (((hF322.1 31 rfl).trans (ex_nd1))) (((hF322.1 15 rfl).trans (ex_op1))) (((hF322.1 19 rfl).trans (ex_sy1))) (((hF322.1 28 rfl).trans (ex_na1))) (ec351) (((hF322.1 9 rfl).trans (fx_9))) (((hF322.1 29 rfl).trans (fx_29))) (by omega) (by omega) (by omega) (by omega) (by omega) (by omega) (by omega) (by omega) (by omega)
  · have _q : True := trivial
    exfalso
    omega
set_option maxRecDepth 20000 in
set_option maxHeartbeats 4000000 in
theorem c_readPar_w_at_95 {X : jX} {k : Nat} (hP : RPw X k) {d : Nat} {Vs : Nat → Prop} {sb pb : Int} (hvb : VB Vs sb) {c0 c1 : jC} {G : Nat → Int} {A : Nat → Nat → Int} {T : jH} {lv : Int} {ln li at0 fk nd sy na vi le op0 tk0 ec : Int} (hd : 8 * k + 82 ≤ d + 1) (hW : Wk G A) (e_ln : G 9 = ln) (e_li : G 3 = li) (e_at0 : G 10 = at0) (e_fk : G 16 = fk) (e_nd : G 31 = nd) (e_sy : G 19 = sy) (e_na : G 28 = na) (e_vi : G 29 = vi) (e_le : A 4 (ln).toNat = le) (e_op0 : G 15 = op0) (e_tk0 : G 11 = tk0) (e_ec : ecn A (G 31) = ec) (i_LT : LT G A) (i_SV : SV Vs sb G A) (i_PQ : PQ Vs sb pb G A) (h_lv : (-2147483648 : Int) ≤ lv ∧ lv ≤ 2147483647) (p_0 : 0 ≤ lv ∧ lv ≤ 15) (p_1 : 18 - lv ≤ ((k + 1 : Nat) : Int)) (p_2 : fk = 0) (p_3 : ln < li) (p_4 : at0 ≤ le) (p_5 : op0 = 0) (p_6 : nd ≤ 2 * at0 - tz tk0 + 30) (p_7 : sy ≤ na + 2) (p_8 : vi ≤ sy) (p_9 : sb = sy) (p_10 : 1 ≤ tk0) : ∀ (L : jL) (Gx : Nat → Int) (Ax : Nat → Nat → Int) (n at1 tk1 fk1 nd1 op1 sy1 na1 sa1 ka1 ec1 : Int), jGet L 0 = some (.ref 66) → jGet L 1 = some (.int (i32 (lv))) → jGet L 2 = some (.int (i32 n)) → Wk Gx Ax → Fr [9, 10, 11, 12, 13, 14, 15, 16, 17, 18, 19, 28, 29, 31] [6, 7, 8, 9, 10, 11, 12, 14, 15, 16, 17, 18, 19, 20, 21, 22, 23, 24, 28] G A Gx Ax → Pf nd A Ax → Fx sr (sy) A Ax → Fx [14] (vi) A Ax → Gx 10 = at1 → Gx 11 = tk1 → Gx 16 = fk1 → Gx 31 = nd1 → Gx 15 = op1 → Gx 19 = sy1 → Gx 28 = na1 → Ax 17 (n).toNat = sa1 → Ax 7 (sa1).toNat = ka1 → ecn Ax (Gx 31) = ec1 → Gx 9 = ln → Gx 29 = vi → ((-2147483648 : Int) ≤ n ∧ n ≤ 2147483647) → (fk1 = 0) → (at0 ≤ at1) → (at1 ≤ le) → (n = nd) → (n ≤ 6998 ∧ n < nd1) → (sy1 = sy + 1) → (sa1 = sy) → (sy1 ≤ na1 + 2) → (op1 = 0) → (nd1 - nd ≤ (2 * at1 - tz tk1) - (2 * at0 - tz tk0)) → (ka1 = 10) → (nd1 = n + 1) → (ND Ax (n) (29) (sa1) (0) (0) (0) (0) (0)) → (nd1 - nd + 5 * (ec1 - ec) ≤ (2 * at1 - tz tk1) - (2 * at0 - tz tk0)) → wj X d jm299 (95, L, [], rV c0 c1 Gx Ax T) (fun o V' => ∃ (G' : Nat → Int) (A' : Nat → Nat → Int) (r : Int) (ln2 : Int) (at2 : Int) (fk2 : Int) (nd2 : Int) (sy2 : Int) (na2 : Int) (vi2 : Int) (lf2 : Int) (ec2 : Int), V' = rV c0 c1 G' A' T ∧ o = .inl (some (.int (i32 r))) ∧ Wk G' A' ∧ Fr [9, 10, 11, 12, 13, 14, 15, 16, 17, 18, 19, 28, 29, 31] [6, 7, 8, 9, 10, 11, 12, 14, 15, 16, 17, 18, 19, 20, 21, 22, 23, 24, 28] G A G' A' ∧ Pf nd A A' ∧ Fx sr (sy) A A' ∧ Fx [14] (vi) A A' ∧ ((-2147483648 : Int) ≤ r ∧ r ≤ 2147483647) ∧ G' 9 = ln2 ∧ G' 10 = at2 ∧ G' 16 = fk2 ∧ G' 31 = nd2 ∧ G' 19 = sy2 ∧ G' 28 = na2 ∧ G' 29 = vi2 ∧ A' 3 (ln2).toNat = lf2 ∧ ecn A' (G' 31) = ec2 ∧ (at0 ≤ at2) ∧ (nd ≤ nd2) ∧ (sy ≤ sy2) ∧ (sy2 ≤ na2 + 2) ∧ (vi ≤ vi2) ∧ (vi2 ≤ vi + 1) ∧ (0 ≤ r) ∧ (r ≤ 6999) ∧ (ln ≤ ln2) ∧ (ln2 ≤ li) ∧ (((1 ≤ fk2) ∧ (nd2 - nd ≤ 2 * at2 - (2 * at0 - tz tk0) + 14)) ∨ ((fk2 = 0) ∧ (vi2 = vi) ∧ (ln < ln2) ∧ (nd2 - nd ≤ 2 * at2 - (2 * at0 - tz tk0)) ∧ (at2 < lf2 ∨ li ≤ ln2) ∧ (nd ≤ r) ∧ (r < nd2) ∧ (wSt A' (sy2) pb (wP A' (sy2) pb (k)) (Vs) (r) (nd) (nd2) (sy) (sy2)) ∧ (NX A' (r)) ∧ (nd2 - nd + 5 * (ec2 - ec) ≤ 2 * at2 - (2 * at0 - tz tk0)) ∧ (nd + 5 * ec ≤ r)))) := by
  have hF0 : Fr [9, 10, 11, 12, 13, 14, 15, 16, 17, 18, 19, 28, 29, 31] [6, 7, 8, 9, 10, 11, 12, 14, 15, 16, 17, 18, 19, 20, 21, 22, 23, 24, 28] G A G A := Fr_rf
  have hP0 : Pf nd A A := Pf_rf
  have hS0 : Fx sr (sy) A A := Fx_rf
  have hV0 : Fx [14] (vi) A A := Fx_rf
  have b_ln : (0 : Int) ≤ ln ∧ ln ≤ 3000 := e_ln ▸ hW.1 9
  have b_li : (0 : Int) ≤ li ∧ li ≤ 3000 := e_li ▸ hW.1 3
  have b_at0 : (0 : Int) ≤ at0 ∧ at0 ≤ 3002 := e_at0 ▸ hW.1 10
  have b_fk : (0 : Int) ≤ fk ∧ fk ≤ 6 := e_fk ▸ hW.1 16
  have b_nd : (0 : Int) ≤ nd ∧ nd ≤ 6999 := e_nd ▸ hW.1 31
  have b_sy : (0 : Int) ≤ sy ∧ sy ≤ 202 := e_sy ▸ hW.1 19
  have b_na : (0 : Int) ≤ na ∧ na ≤ 200 := e_na ▸ hW.1 28
  have b_vi : (0 : Int) ≤ vi ∧ vi ≤ 202 := e_vi ▸ hW.1 29
  have b_le : (0 : Int) ≤ le ∧ le ≤ 3000 := e_le ▸ hW.2 4 _
  have b_op0 : (-2147483648 : Int) ≤ op0 ∧ op0 ≤ 2147483647 := e_op0 ▸ hW.1 15
  have z_tk0 := tz_f tk0
  have b_tk0 : (0 : Int) ≤ tk0 ∧ tk0 ≤ 5 := e_tk0 ▸ hW.1 11
  intro L Gx Ax n at1 tk1 fk1 nd1 op1 sy1 na1 sa1 ka1 ec1 gL_0 gL_1 gL_2 hWx hFx hPx hSx hVx ex_at1 ex_tk1 ex_fk1 ex_nd1 ex_op1 ex_sy1 ex_na1 ex_sa1 ex_ka1 ex_ec1 fx_9 fx_29 rx_n iv_0 iv_1 iv_2 iv_3 iv_4 iv_5 iv_6 iv_7 iv_8 iv_9 iv_10 iv_11 iv_12 iv_13
  have b_at1 : (0 : Int) ≤ at1 ∧ at1 ≤ 3002 := ex_at1 ▸ hWx.1 10
  have z_tk1 := tz_f tk1
  have b_tk1 : (0 : Int) ≤ tk1 ∧ tk1 ≤ 5 := ex_tk1 ▸ hWx.1 11
  have b_fk1 : (0 : Int) ≤ fk1 ∧ fk1 ≤ 6 := ex_fk1 ▸ hWx.1 16
  have b_nd1 : (0 : Int) ≤ nd1 ∧ nd1 ≤ 6999 := ex_nd1 ▸ hWx.1 31
  have b_op1 : (-2147483648 : Int) ≤ op1 ∧ op1 ≤ 2147483647 := ex_op1 ▸ hWx.1 15
  have b_sy1 : (0 : Int) ≤ sy1 ∧ sy1 ≤ 202 := ex_sy1 ▸ hWx.1 19
  have b_na1 : (0 : Int) ≤ na1 ∧ na1 ≤ 200 := ex_na1 ▸ hWx.1 28
  refine jx_ld (pc' := 96) (l' := L) (st' := [.ref 66]) rfl (jl_aloadn gL_0) ?_
  refine jr_get (pc' := 99) (i := 36) (v := .ref 86) rfl rfl (by decide) rfl rfl ?_
  refine jx_ld (pc' := 100) (l' := L) (st' := [.int (i32 (n)), .ref 86]) rfl (jl_iloadn gL_2) ?_
  refine jx_ld (pc' := 101) (l' := L) (st' := [.ref 66, .int (i32 (n)), .ref 86]) rfl (jl_aloadn gL_0) ?_
  refine jx_ar (pc' := 102) (st' := [.int (i32 (0)), .ref 66, .int (i32 (n)), .ref 86]) rfl rfl rfl rfl ?_
  refine jx_hp (pc' := 105) (st' := [.int (i32 (2147483647)), .int (i32 (0)), .ref 66, .int (i32 (n)), .ref 86]) rfl rfl rfl rfl rfl rfl ?_
  refine jx_vr (pc' := 108) (as := [.int (i32 (0)), .int (i32 (2147483647))]) (st := [.int (i32 (n)), .ref 86]) rfl rfl rfl rfl ⟨rfl, rfl, Nat.le_of_ble_eq_true rfl⟩ rfl rfl (c_needNumber (dd := d) (hd := by omega) (hW := hWx) (lo := 0) (hi := 2147483647) (ln := ln) (e_ln := show Gx 9 = ln from (fx_9)) (le := le) (e_le := show Ax 4 (ln).toNat = le from (congrFun (hFx.2 4 rfl) _).trans (e_le)) (at0 := at1) (e_at0 := show Gx 10 = at1 from (ex_at1)) (fk := fk1) (e_fk := show Gx 16 = fk1 from (ex_fk1)) (tk0 := tk1) (e_tk0 := show Gx 11 = tk1 from (ex_tk1))  (h_lo := ⟨(by decide), (by decide)⟩) (h_hi := ⟨(by decide), (by decide)⟩)  (p_0 := by omega)) (fun o V' hq => ?_)
  obtain ⟨G353, A354, r355, at2_356, tk2_357, fk2_358, rfl, rfl, hW359, hF360, b361, e362, e363, e364, p365, p366, q367⟩ := hq
  have hF368 := Fr_tr hFx hF360 (Fr_sub (by decide)) (Fr_sub (by decide))
  have hP369 := Pf_f hPx hF360 (by decide)
  have hS370 := Fx_f hSx hF360 (by decide)
  have hV371 := Fx_f hVx hF360 (by decide)
  have sf372 : ND A354 (n) (29) (sa1) (0) (0) (0) (0) (0) := ND_ag (by omega) (Ag_fr hF360 (by decide)) iv_12
  have ec373 : ecn A354 (G353 31) = ec1 := (ecn_f (hF360.2 15 rfl) (hF360.1 31 rfl)).trans ex_ec1
  have bat2_356 : (0 : Int) ≤ at2_356 ∧ at2_356 ≤ 3002 := e362 ▸ hW359.1 10
  have ztk2_357 := tz_b tk2_357
  have btk2_357 : (0 : Int) ≤ tk2_357 ∧ tk2_357 ≤ 5 := e363 ▸ hW359.1 11
  have bfk2_358 : (0 : Int) ≤ fk2_358 ∧ fk2_358 ≤ 6 := e364 ▸ hW359.1 16
  refine .inr ⟨_, rfl, ?_⟩
  rcases q367 with ⟨a374, a375, a376, a377⟩ | ⟨a378, a379, a380, a381, a382⟩
  · have _q : True := trivial
    refine jr_st (pc' := 109) (i := 19) (m := 7000) (z := n) (y := r355) rfl (by decide) rfl (by decide) (by omega) (by omega) rfl ?_
    have hW384 : Wk G353 (uA A354 19 (n).toNat (r355)) := Wk_a hW359 (show (-2147483648 : Int) ≤ r355 by omega) (show r355 ≤ (2147483647 : Int) by omega)
    have hF385 := Fr_a (z := r355) (k := 19) (n := (n).toNat) hF368 (by decide)
    obtain ⟨A383, eA383⟩ : ∃ q, q = uA A354 19 (n).toNat (r355) := ⟨_, rfl⟩
    rw [← eA383]
    rw [← eA383] at hW384 hF385
    have q386 : A383 19 (n).toNat = r355 := by rw [eA383]; exact uA_eq
    have hP387 : Pf nd A A383 := eA383 ▸ Pf_a hP369 (z := n) (by omega) (by omega)
    have hS388 : Fx sr (sy) A A383 := eA383 ▸ Fx_n hS370 rfl
    have hV389 : Fx [14] (vi) A A383 := eA383 ▸ Fx_n hV371 rfl
    have sf390 : ND A383 (n) (29) (sa1) (0) (r355) (0) (0) (0) := ND_c eA383 sf372
    have ec391 : ecn A383 (G353 31) = ec1 := (ecn_e ((congrFun eA383 15).trans (uA_ne (by decide)))).trans ec373
    have z392 := tz_f (tk2_357)
    exact c_readPar_w_at_109p (X := X) (k := k) (hP := hP) (d := d) (Vs := Vs) (sb := sb) (pb := pb) (hvb := hvb) (c0 := c0) (c1 := c1) (G := G) (A := A) (T := T) (lv := lv) (ln := ln) (li := li) (at0 := at0) (fk := fk) (nd := nd) (sy := sy) (na := na) (vi := vi) (le := le) (op0 := op0) (tk0 := tk0) (ec := ec) (hd := hd) (hW := hW) (e_ln := e_ln) (e_li := e_li) (e_at0 := e_at0) (e_fk := e_fk) (e_nd := e_nd) (e_sy := e_sy) (e_na := e_na) (e_vi := e_vi) (e_le := e_le) (e_op0 := e_op0) (e_tk0 := e_tk0) (e_ec := e_ec) (i_LT := i_LT) (i_SV := i_SV) (i_PQ := i_PQ) (h_lv := h_lv) (p_0 := p_0) (p_1 := p_1) (p_2 := p_2) (p_3 := p_3) (p_4 := p_4) (p_5 := p_5) (p_6 := p_6) (p_7 := p_7) (p_8 := p_8) (p_9 := p_9) (p_10 := p_10) L G353 A383 (n) (at2_356) (tk2_357) (fk2_358) (nd1) (op1) (sy1) (na1) (ec1) gL_0 gL_1 gL_2 hW384 hF385 hP387 hS388 hV389 ((e362)) ((e363)) ((e364)) (((hF360.1 31 rfl).trans (ex_nd1))) (((hF360.1 15 rfl).trans (ex_op1))) (((hF360.1 19 rfl).trans (ex_sy1))) (((hF360.1 28 rfl).trans (ex_na1))) (ec391) (((hF360.1 9 rfl).trans (fx_9))) (((hF360.1 29 rfl).trans (fx_29))) (by omega) (by omega) (by omega) (by omega) (by omega) (by omega) (by omega) (by omega) (by omega)
  · have _q : True := trivial
    refine jr_st (pc' := 109) (i := 19) (m := 7000) (z := n) (y := r355) rfl (by decide) rfl (by decide) (by omega) (by omega) rfl ?_
    have hW394 : Wk G353 (uA A354 19 (n).toNat (r355)) := Wk_a hW359 (show (-2147483648 : Int) ≤ r355 by omega) (show r355 ≤ (2147483647 : Int) by omega)
    have hF395 := Fr_a (z := r355) (k := 19) (n := (n).toNat) hF368 (by decide)
    obtain ⟨A393, eA393⟩ : ∃ q, q = uA A354 19 (n).toNat (r355) := ⟨_, rfl⟩
    rw [← eA393]
    rw [← eA393] at hW394 hF395
    have q396 : A393 19 (n).toNat = r355 := by rw [eA393]; exact uA_eq
    have hP397 : Pf nd A A393 := eA393 ▸ Pf_a hP369 (z := n) (by omega) (by omega)
    have hS398 : Fx sr (sy) A A393 := eA393 ▸ Fx_n hS370 rfl
    have hV399 : Fx [14] (vi) A A393 := eA393 ▸ Fx_n hV371 rfl
    have sf400 : ND A393 (n) (29) (sa1) (0) (r355) (0) (0) (0) := ND_c eA393 sf372
    have ec401 : ecn A393 (G353 31) = ec1 := (ecn_e ((congrFun eA393 15).trans (uA_ne (by decide)))).trans ec373
    have z402 := tz_f (tk2_357)
    exact c_readPar_w_at_109 (X := X) (k := k) (hP := hP) (d := d) (Vs := Vs) (sb := sb) (pb := pb) (hvb := hvb) (c0 := c0) (c1 := c1) (G := G) (A := A) (T := T) (lv := lv) (ln := ln) (li := li) (at0 := at0) (fk := fk) (nd := nd) (sy := sy) (na := na) (vi := vi) (le := le) (op0 := op0) (tk0 := tk0) (ec := ec) (hd := hd) (hW := hW) (e_ln := e_ln) (e_li := e_li) (e_at0 := e_at0) (e_fk := e_fk) (e_nd := e_nd) (e_sy := e_sy) (e_na := e_na) (e_vi := e_vi) (e_le := e_le) (e_op0 := e_op0) (e_tk0 := e_tk0) (e_ec := e_ec) (i_LT := i_LT) (i_SV := i_SV) (i_PQ := i_PQ) (h_lv := h_lv) (p_0 := p_0) (p_1 := p_1) (p_2 := p_2) (p_3 := p_3) (p_4 := p_4) (p_5 := p_5) (p_6 := p_6) (p_7 := p_7) (p_8 := p_8) (p_9 := p_9) (p_10 := p_10) L G353 A393 (n) (at2_356) (tk2_357) (fk2_358) (nd1) (op1) (sy1) (na1) (sa1) (ka1) (r355) (ec1) gL_0 gL_1 gL_2 hW394 hF395 hP397 hS398 hV399 ((e362)) ((e363)) ((e364)) (((hF360.1 31 rfl).trans (ex_nd1))) (((hF360.1 15 rfl).trans (ex_op1))) (((hF360.1 19 rfl).trans (ex_sy1))) (((hF360.1 28 rfl).trans (ex_na1))) ((congrFun (((congrFun eA393 17).trans (uA_ne (by decide))).trans (hF360.2 17 rfl)) _).trans (ex_sa1)) ((congrFun (((congrFun eA393 7).trans (uA_ne (by decide))).trans (hF360.2 7 rfl)) _).trans (ex_ka1)) ((q396)) (ec401) (((hF360.1 9 rfl).trans (fx_9))) (((hF360.1 29 rfl).trans (fx_29))) (by omega) (by omega) (by omega) (by omega) (by omega) (by omega) (by omega) (by omega) (by omega) (by omega) (by omega) (by omega) (sf400) (by omega) (by omega) (by omega)
set_option maxRecDepth 20000 in
set_option maxHeartbeats 4000000 in
theorem c_readPar_w_at_85p {X : jX} {k : Nat} (hP : RPw X k) {d : Nat} {Vs : Nat → Prop} {sb pb : Int} (hvb : VB Vs sb) {c0 c1 : jC} {G : Nat → Int} {A : Nat → Nat → Int} {T : jH} {lv : Int} {ln li at0 fk nd sy na vi le op0 tk0 ec : Int} (hd : 8 * k + 82 ≤ d + 1) (hW : Wk G A) (e_ln : G 9 = ln) (e_li : G 3 = li) (e_at0 : G 10 = at0) (e_fk : G 16 = fk) (e_nd : G 31 = nd) (e_sy : G 19 = sy) (e_na : G 28 = na) (e_vi : G 29 = vi) (e_le : A 4 (ln).toNat = le) (e_op0 : G 15 = op0) (e_tk0 : G 11 = tk0) (e_ec : ecn A (G 31) = ec) (i_LT : LT G A) (i_SV : SV Vs sb G A) (i_PQ : PQ Vs sb pb G A) (h_lv : (-2147483648 : Int) ≤ lv ∧ lv ≤ 2147483647) (p_0 : 0 ≤ lv ∧ lv ≤ 15) (p_1 : 18 - lv ≤ ((k + 1 : Nat) : Int)) (p_2 : fk = 0) (p_3 : ln < li) (p_4 : at0 ≤ le) (p_5 : op0 = 0) (p_6 : nd ≤ 2 * at0 - tz tk0 + 30) (p_7 : sy ≤ na + 2) (p_8 : vi ≤ sy) (p_9 : sb = sy) (p_10 : 1 ≤ tk0) : ∀ (L : jL) (Gx : Nat → Int) (Ax : Nat → Nat → Int) (n at1 tk1 fk1 nd1 op1 sy1 na1 ec1 : Int), jGet L 0 = some (.ref 66) → jGet L 1 = some (.int (i32 (lv))) → jGet L 2 = some (.int (i32 n)) → Wk Gx Ax → Fr [9, 10, 11, 12, 13, 14, 15, 16, 17, 18, 19, 28, 29, 31] [6, 7, 8, 9, 10, 11, 12, 14, 15, 16, 17, 18, 19, 20, 21, 22, 23, 24, 28] G A Gx Ax → Pf nd A Ax → Fx sr (sy) A Ax → Fx [14] (vi) A Ax → Gx 10 = at1 → Gx 11 = tk1 → Gx 16 = fk1 → Gx 31 = nd1 → Gx 15 = op1 → Gx 19 = sy1 → Gx 28 = na1 → ecn Ax (Gx 31) = ec1 → Gx 9 = ln → Gx 29 = vi → ((-2147483648 : Int) ≤ n ∧ n ≤ 2147483647) → (1 ≤ fk1) → (at0 ≤ at1) → (at1 ≤ le) → (nd ≤ n ∧ n ≤ 6998 ∧ n < nd1) → (sy ≤ sy1) → (sy1 ≤ na1 + 2) → (0 ≤ op1 ∧ op1 ≤ 9) → (nd1 - nd ≤ 2 * at1 - 2 * at0 + 8) → wj X d jm299 (85, L, [], rV c0 c1 Gx Ax T) (fun o V' => ∃ (G' : Nat → Int) (A' : Nat → Nat → Int) (r : Int) (ln2 : Int) (at2 : Int) (fk2 : Int) (nd2 : Int) (sy2 : Int) (na2 : Int) (vi2 : Int) (lf2 : Int) (ec2 : Int), V' = rV c0 c1 G' A' T ∧ o = .inl (some (.int (i32 r))) ∧ Wk G' A' ∧ Fr [9, 10, 11, 12, 13, 14, 15, 16, 17, 18, 19, 28, 29, 31] [6, 7, 8, 9, 10, 11, 12, 14, 15, 16, 17, 18, 19, 20, 21, 22, 23, 24, 28] G A G' A' ∧ Pf nd A A' ∧ Fx sr (sy) A A' ∧ Fx [14] (vi) A A' ∧ ((-2147483648 : Int) ≤ r ∧ r ≤ 2147483647) ∧ G' 9 = ln2 ∧ G' 10 = at2 ∧ G' 16 = fk2 ∧ G' 31 = nd2 ∧ G' 19 = sy2 ∧ G' 28 = na2 ∧ G' 29 = vi2 ∧ A' 3 (ln2).toNat = lf2 ∧ ecn A' (G' 31) = ec2 ∧ (at0 ≤ at2) ∧ (nd ≤ nd2) ∧ (sy ≤ sy2) ∧ (sy2 ≤ na2 + 2) ∧ (vi ≤ vi2) ∧ (vi2 ≤ vi + 1) ∧ (0 ≤ r) ∧ (r ≤ 6999) ∧ (ln ≤ ln2) ∧ (ln2 ≤ li) ∧ (((1 ≤ fk2) ∧ (nd2 - nd ≤ 2 * at2 - (2 * at0 - tz tk0) + 14)) ∨ ((fk2 = 0) ∧ (vi2 = vi) ∧ (ln < ln2) ∧ (nd2 - nd ≤ 2 * at2 - (2 * at0 - tz tk0)) ∧ (at2 < lf2 ∨ li ≤ ln2) ∧ (nd ≤ r) ∧ (r < nd2) ∧ (wSt A' (sy2) pb (wP A' (sy2) pb (k)) (Vs) (r) (nd) (nd2) (sy) (sy2)) ∧ (NX A' (r)) ∧ (nd2 - nd + 5 * (ec2 - ec) ≤ 2 * at2 - (2 * at0 - tz tk0)) ∧ (nd + 5 * ec ≤ r)))) := by
  have hF0 : Fr [9, 10, 11, 12, 13, 14, 15, 16, 17, 18, 19, 28, 29, 31] [6, 7, 8, 9, 10, 11, 12, 14, 15, 16, 17, 18, 19, 20, 21, 22, 23, 24, 28] G A G A := Fr_rf
  have hP0 : Pf nd A A := Pf_rf
  have hS0 : Fx sr (sy) A A := Fx_rf
  have hV0 : Fx [14] (vi) A A := Fx_rf
  have b_ln : (0 : Int) ≤ ln ∧ ln ≤ 3000 := e_ln ▸ hW.1 9
  have b_li : (0 : Int) ≤ li ∧ li ≤ 3000 := e_li ▸ hW.1 3
  have b_at0 : (0 : Int) ≤ at0 ∧ at0 ≤ 3002 := e_at0 ▸ hW.1 10
  have b_fk : (0 : Int) ≤ fk ∧ fk ≤ 6 := e_fk ▸ hW.1 16
  have b_nd : (0 : Int) ≤ nd ∧ nd ≤ 6999 := e_nd ▸ hW.1 31
  have b_sy : (0 : Int) ≤ sy ∧ sy ≤ 202 := e_sy ▸ hW.1 19
  have b_na : (0 : Int) ≤ na ∧ na ≤ 200 := e_na ▸ hW.1 28
  have b_vi : (0 : Int) ≤ vi ∧ vi ≤ 202 := e_vi ▸ hW.1 29
  have b_le : (0 : Int) ≤ le ∧ le ≤ 3000 := e_le ▸ hW.2 4 _
  have b_op0 : (-2147483648 : Int) ≤ op0 ∧ op0 ≤ 2147483647 := e_op0 ▸ hW.1 15
  have z_tk0 := tz_f tk0
  have b_tk0 : (0 : Int) ≤ tk0 ∧ tk0 ≤ 5 := e_tk0 ▸ hW.1 11
  intro L Gx Ax n at1 tk1 fk1 nd1 op1 sy1 na1 ec1 gL_0 gL_1 gL_2 hWx hFx hPx hSx hVx ex_at1 ex_tk1 ex_fk1 ex_nd1 ex_op1 ex_sy1 ex_na1 ex_ec1 fx_9 fx_29 rx_n iv_0 iv_1 iv_2 iv_3 iv_4 iv_5 iv_6 iv_7
  have b_at1 : (0 : Int) ≤ at1 ∧ at1 ≤ 3002 := ex_at1 ▸ hWx.1 10
  have z_tk1 := tz_f tk1
  have b_tk1 : (0 : Int) ≤ tk1 ∧ tk1 ≤ 5 := ex_tk1 ▸ hWx.1 11
  have b_fk1 : (0 : Int) ≤ fk1 ∧ fk1 ≤ 6 := ex_fk1 ▸ hWx.1 16
  have b_nd1 : (0 : Int) ≤ nd1 ∧ nd1 ≤ 6999 := ex_nd1 ▸ hWx.1 31
  have b_op1 : (-2147483648 : Int) ≤ op1 ∧ op1 ≤ 2147483647 := ex_op1 ▸ hWx.1 15
  have b_sy1 : (0 : Int) ≤ sy1 ∧ sy1 ≤ 202 := ex_sy1 ▸ hWx.1 19
  have b_na1 : (0 : Int) ≤ na1 ∧ na1 ≤ 200 := ex_na1 ▸ hWx.1 28
  refine jx_ld (pc' := 86) (l' := L) (st' := [.ref 66]) rfl (jl_aloadn gL_0) ?_
  refine jx_ld (pc' := 87) (l' := L) (st' := [.ref 66, .ref 66]) rfl (jl_aloadn gL_0) ?_
  refine jx_ar (pc' := 89) (st' := [.int (i32 (61)), .ref 66, .ref 66]) rfl rfl rfl rfl ?_
  have b403 : (-2147483648 : Int) ≤ Gx 13 ∧ Gx 13 ≤ 2147483647 := hWx.1 13
  refine jx_vr (pc' := 92) (as := [.int (i32 (61))]) (st := [.ref 66]) rfl rfl rfl rfl ⟨rfl, rfl, Nat.le_of_ble_eq_true rfl⟩ rfl rfl (c_is (dd := d) (hd := by omega) (hW := hWx) (k := 61) (tk := tk1) (e_tk := show Gx 11 = tk1 from (ex_tk1)) (tn := Gx 13) (e_tn := show Gx 13 = Gx 13 from rfl)  (h_k := ⟨(by decide), (by decide)⟩)  ) (fun o V' hq => ?_)
  obtain ⟨r404, rfl, rfl, b405, q406⟩ := hq
  refine .inr ⟨_, rfl, ?_⟩
  rcases q406 with ⟨rfl, a407, a408, a409⟩ | rfl
  · have _q : True := trivial
    refine jx_vr (pc' := 95) (as := [.int (i32 (1))]) (st := []) rfl rfl rfl rfl ⟨rfl, rfl, Nat.le_of_ble_eq_true rfl⟩ rfl rfl (c_need (dd := d) (hd := by omega) (hW := hWx) (g := 1) (ln := ln) (e_ln := show Gx 9 = ln from (fx_9)) (le := le) (e_le := show Ax 4 (ln).toNat = le from (congrFun (hFx.2 4 rfl) _).trans (e_le)) (at0 := at1) (e_at0 := show Gx 10 = at1 from (ex_at1)) (fk := fk1) (e_fk := show Gx 16 = fk1 from (ex_fk1)) (tk0 := tk1) (e_tk0 := show Gx 11 = tk1 from (ex_tk1))  (h_g := ⟨(by decide), (by decide)⟩)  (p_0 := by omega)) (fun o V' hq => ?_)
    obtain ⟨G410, A411, at2_412, tk2_413, fk2_414, rfl, rfl, hW415, hF416, e417, e418, e419, p420, p421, q422⟩ := hq
    have hF423 := Fr_tr hFx hF416 (Fr_sub (by decide)) (Fr_sub (by decide))
    have hP424 := Pf_f hPx hF416 (by decide)
    have hS425 := Fx_f hSx hF416 (by decide)
    have hV426 := Fx_f hVx hF416 (by decide)
    have ec427 : ecn A411 (G410 31) = ec1 := (ecn_f (hF416.2 15 rfl) (hF416.1 31 rfl)).trans ex_ec1
    have bat2_412 : (0 : Int) ≤ at2_412 ∧ at2_412 ≤ 3002 := e417 ▸ hW415.1 10
    have ztk2_413 := tz_b tk2_413
    have btk2_413 : (0 : Int) ≤ tk2_413 ∧ tk2_413 ≤ 5 := e418 ▸ hW415.1 11
    have bfk2_414 : (0 : Int) ≤ fk2_414 ∧ fk2_414 ≤ 6 := e419 ▸ hW415.1 16
    refine .inl ⟨rfl, ?_⟩
    rcases q422 with ⟨a428, a429, a430, a431⟩ | ⟨a432, a433, a434, a435⟩
    · have _q : True := trivial
      have z436 := tz_f (tk2_413)
      exact c_readPar_w_at_95p (X := X) (k := k) (hP := hP) (d := d) (Vs := Vs) (sb := sb) (pb := pb) (hvb := hvb) (c0 := c0) (c1 := c1) (G := G) (A := A) (T := T) (lv := lv) (ln := ln) (li := li) (at0 := at0) (fk := fk) (nd := nd) (sy := sy) (na := na) (vi := vi) (le := le) (op0 := op0) (tk0 := tk0) (ec := ec) (hd := hd) (hW := hW) (e_ln := e_ln) (e_li := e_li) (e_at0 := e_at0) (e_fk := e_fk) (e_nd := e_nd) (e_sy := e_sy) (e_na := e_na) (e_vi := e_vi) (e_le := e_le) (e_op0 := e_op0) (e_tk0 := e_tk0) (e_ec := e_ec) (i_LT := i_LT) (i_SV := i_SV) (i_PQ := i_PQ) (h_lv := h_lv) (p_0 := p_0) (p_1 := p_1) (p_2 := p_2) (p_3 := p_3) (p_4 := p_4) (p_5 := p_5) (p_6 := p_6) (p_7 := p_7) (p_8 := p_8) (p_9 := p_9) (p_10 := p_10) L G410 A411 (n) (at2_412) (tk2_413) (fk2_414) (nd1) (op1) (sy1) (na1) (ec1) gL_0 gL_1 gL_2 hW415 hF423 hP424 hS425 hV426 ((e417)) ((e418)) ((e419)) (((hF416.1 31 rfl).trans (ex_nd1))) (((hF416.1 15 rfl).trans (ex_op1))) (((hF416.1 19 rfl).trans (ex_sy1))) (((hF416.1 28 rfl).trans (ex_na1))) (ec427) (((hF416.1 9 rfl).trans (fx_9))) (((hF416.1 29 rfl).trans (fx_29))) (by omega) (by omega) (by omega) (by omega) (by omega) (by omega) (by omega) (by omega) (by omega)
    · have _q : True := trivial
      exfalso
      omega
  · have _q : True := trivial
    refine jx_vr (pc' := 95) (as := [.int (i32 (0))]) (st := []) rfl rfl rfl rfl ⟨rfl, rfl, Nat.le_of_ble_eq_true rfl⟩ rfl rfl (c_need (dd := d) (hd := by omega) (hW := hWx) (g := 0) (ln := ln) (e_ln := show Gx 9 = ln from (fx_9)) (le := le) (e_le := show Ax 4 (ln).toNat = le from (congrFun (hFx.2 4 rfl) _).trans (e_le)) (at0 := at1) (e_at0 := show Gx 10 = at1 from (ex_at1)) (fk := fk1) (e_fk := show Gx 16 = fk1 from (ex_fk1)) (tk0 := tk1) (e_tk0 := show Gx 11 = tk1 from (ex_tk1))  (h_g := ⟨(by decide), (by decide)⟩)  (p_0 := by omega)) (fun o V' hq => ?_)
    obtain ⟨G437, A438, at2_439, tk2_440, fk2_441, rfl, rfl, hW442, hF443, e444, e445, e446, p447, p448, q449⟩ := hq
    have hF450 := Fr_tr hFx hF443 (Fr_sub (by decide)) (Fr_sub (by decide))
    have hP451 := Pf_f hPx hF443 (by decide)
    have hS452 := Fx_f hSx hF443 (by decide)
    have hV453 := Fx_f hVx hF443 (by decide)
    have ec454 : ecn A438 (G437 31) = ec1 := (ecn_f (hF443.2 15 rfl) (hF443.1 31 rfl)).trans ex_ec1
    have bat2_439 : (0 : Int) ≤ at2_439 ∧ at2_439 ≤ 3002 := e444 ▸ hW442.1 10
    have ztk2_440 := tz_b tk2_440
    have btk2_440 : (0 : Int) ≤ tk2_440 ∧ tk2_440 ≤ 5 := e445 ▸ hW442.1 11
    have bfk2_441 : (0 : Int) ≤ fk2_441 ∧ fk2_441 ≤ 6 := e446 ▸ hW442.1 16
    refine .inl ⟨rfl, ?_⟩
    rcases q449 with ⟨a455, a456, a457, a458⟩ | ⟨a459, a460, a461, a462⟩
    · have _q : True := trivial
      have z463 := tz_f (tk2_440)
      exact c_readPar_w_at_95p (X := X) (k := k) (hP := hP) (d := d) (Vs := Vs) (sb := sb) (pb := pb) (hvb := hvb) (c0 := c0) (c1 := c1) (G := G) (A := A) (T := T) (lv := lv) (ln := ln) (li := li) (at0 := at0) (fk := fk) (nd := nd) (sy := sy) (na := na) (vi := vi) (le := le) (op0 := op0) (tk0 := tk0) (ec := ec) (hd := hd) (hW := hW) (e_ln := e_ln) (e_li := e_li) (e_at0 := e_at0) (e_fk := e_fk) (e_nd := e_nd) (e_sy := e_sy) (e_na := e_na) (e_vi := e_vi) (e_le := e_le) (e_op0 := e_op0) (e_tk0 := e_tk0) (e_ec := e_ec) (i_LT := i_LT) (i_SV := i_SV) (i_PQ := i_PQ) (h_lv := h_lv) (p_0 := p_0) (p_1 := p_1) (p_2 := p_2) (p_3 := p_3) (p_4 := p_4) (p_5 := p_5) (p_6 := p_6) (p_7 := p_7) (p_8 := p_8) (p_9 := p_9) (p_10 := p_10) L G437 A438 (n) (at2_439) (tk2_440) (fk2_441) (nd1) (op1) (sy1) (na1) (ec1) gL_0 gL_1 gL_2 hW442 hF450 hP451 hS452 hV453 ((e444)) ((e445)) ((e446)) (((hF443.1 31 rfl).trans (ex_nd1))) (((hF443.1 15 rfl).trans (ex_op1))) (((hF443.1 19 rfl).trans (ex_sy1))) (((hF443.1 28 rfl).trans (ex_na1))) (ec454) (((hF443.1 9 rfl).trans (fx_9))) (((hF443.1 29 rfl).trans (fx_29))) (by omega) (by omega) (by omega) (by omega) (by omega) (by omega) (by omega) (by omega) (by omega)
    · have _q : True := trivial
      exfalso
      omega
set_option maxRecDepth 20000 in
set_option maxHeartbeats 4000000 in
theorem c_readPar_w_at_85 {X : jX} {k : Nat} (hP : RPw X k) {d : Nat} {Vs : Nat → Prop} {sb pb : Int} (hvb : VB Vs sb) {c0 c1 : jC} {G : Nat → Int} {A : Nat → Nat → Int} {T : jH} {lv : Int} {ln li at0 fk nd sy na vi le op0 tk0 ec : Int} (hd : 8 * k + 82 ≤ d + 1) (hW : Wk G A) (e_ln : G 9 = ln) (e_li : G 3 = li) (e_at0 : G 10 = at0) (e_fk : G 16 = fk) (e_nd : G 31 = nd) (e_sy : G 19 = sy) (e_na : G 28 = na) (e_vi : G 29 = vi) (e_le : A 4 (ln).toNat = le) (e_op0 : G 15 = op0) (e_tk0 : G 11 = tk0) (e_ec : ecn A (G 31) = ec) (i_LT : LT G A) (i_SV : SV Vs sb G A) (i_PQ : PQ Vs sb pb G A) (h_lv : (-2147483648 : Int) ≤ lv ∧ lv ≤ 2147483647) (p_0 : 0 ≤ lv ∧ lv ≤ 15) (p_1 : 18 - lv ≤ ((k + 1 : Nat) : Int)) (p_2 : fk = 0) (p_3 : ln < li) (p_4 : at0 ≤ le) (p_5 : op0 = 0) (p_6 : nd ≤ 2 * at0 - tz tk0 + 30) (p_7 : sy ≤ na + 2) (p_8 : vi ≤ sy) (p_9 : sb = sy) (p_10 : 1 ≤ tk0) : ∀ (L : jL) (Gx : Nat → Int) (Ax : Nat → Nat → Int) (n at1 tk1 fk1 nd1 op1 sy1 na1 sa1 ka1 ec1 : Int), jGet L 0 = some (.ref 66) → jGet L 1 = some (.int (i32 (lv))) → jGet L 2 = some (.int (i32 n)) → Wk Gx Ax → Fr [9, 10, 11, 12, 13, 14, 15, 16, 17, 18, 19, 28, 29, 31] [6, 7, 8, 9, 10, 11, 12, 14, 15, 16, 17, 18, 19, 20, 21, 22, 23, 24, 28] G A Gx Ax → Pf nd A Ax → Fx sr (sy) A Ax → Fx [14] (vi) A Ax → Gx 10 = at1 → Gx 11 = tk1 → Gx 16 = fk1 → Gx 31 = nd1 → Gx 15 = op1 → Gx 19 = sy1 → Gx 28 = na1 → Ax 17 (n).toNat = sa1 → Ax 7 (sa1).toNat = ka1 → ecn Ax (Gx 31) = ec1 → Gx 9 = ln → Gx 29 = vi → ((-2147483648 : Int) ≤ n ∧ n ≤ 2147483647) → (fk1 = 0) → (at0 ≤ at1) → (at1 ≤ le) → (n = nd) → (n ≤ 6998 ∧ n < nd1) → (sy1 = sy + 1) → (sa1 = sy) → (sy1 ≤ na1 + 2) → (op1 = 0) → (nd1 - nd ≤ (2 * at1 - tz tk1) - (2 * at0 - tz tk0)) → (ka1 = 10) → (nd1 = n + 1) → (ND Ax (n) (29) (sa1) (0) (0) (0) (0) (0)) → (nd1 - nd + 5 * (ec1 - ec) ≤ (2 * at1 - tz tk1) - (2 * at0 - tz tk0)) → wj X d jm299 (85, L, [], rV c0 c1 Gx Ax T) (fun o V' => ∃ (G' : Nat → Int) (A' : Nat → Nat → Int) (r : Int) (ln2 : Int) (at2 : Int) (fk2 : Int) (nd2 : Int) (sy2 : Int) (na2 : Int) (vi2 : Int) (lf2 : Int) (ec2 : Int), V' = rV c0 c1 G' A' T ∧ o = .inl (some (.int (i32 r))) ∧ Wk G' A' ∧ Fr [9, 10, 11, 12, 13, 14, 15, 16, 17, 18, 19, 28, 29, 31] [6, 7, 8, 9, 10, 11, 12, 14, 15, 16, 17, 18, 19, 20, 21, 22, 23, 24, 28] G A G' A' ∧ Pf nd A A' ∧ Fx sr (sy) A A' ∧ Fx [14] (vi) A A' ∧ ((-2147483648 : Int) ≤ r ∧ r ≤ 2147483647) ∧ G' 9 = ln2 ∧ G' 10 = at2 ∧ G' 16 = fk2 ∧ G' 31 = nd2 ∧ G' 19 = sy2 ∧ G' 28 = na2 ∧ G' 29 = vi2 ∧ A' 3 (ln2).toNat = lf2 ∧ ecn A' (G' 31) = ec2 ∧ (at0 ≤ at2) ∧ (nd ≤ nd2) ∧ (sy ≤ sy2) ∧ (sy2 ≤ na2 + 2) ∧ (vi ≤ vi2) ∧ (vi2 ≤ vi + 1) ∧ (0 ≤ r) ∧ (r ≤ 6999) ∧ (ln ≤ ln2) ∧ (ln2 ≤ li) ∧ (((1 ≤ fk2) ∧ (nd2 - nd ≤ 2 * at2 - (2 * at0 - tz tk0) + 14)) ∨ ((fk2 = 0) ∧ (vi2 = vi) ∧ (ln < ln2) ∧ (nd2 - nd ≤ 2 * at2 - (2 * at0 - tz tk0)) ∧ (at2 < lf2 ∨ li ≤ ln2) ∧ (nd ≤ r) ∧ (r < nd2) ∧ (wSt A' (sy2) pb (wP A' (sy2) pb (k)) (Vs) (r) (nd) (nd2) (sy) (sy2)) ∧ (NX A' (r)) ∧ (nd2 - nd + 5 * (ec2 - ec) ≤ 2 * at2 - (2 * at0 - tz tk0)) ∧ (nd + 5 * ec ≤ r)))) := by
  have hF0 : Fr [9, 10, 11, 12, 13, 14, 15, 16, 17, 18, 19, 28, 29, 31] [6, 7, 8, 9, 10, 11, 12, 14, 15, 16, 17, 18, 19, 20, 21, 22, 23, 24, 28] G A G A := Fr_rf
  have hP0 : Pf nd A A := Pf_rf
  have hS0 : Fx sr (sy) A A := Fx_rf
  have hV0 : Fx [14] (vi) A A := Fx_rf
  have b_ln : (0 : Int) ≤ ln ∧ ln ≤ 3000 := e_ln ▸ hW.1 9
  have b_li : (0 : Int) ≤ li ∧ li ≤ 3000 := e_li ▸ hW.1 3
  have b_at0 : (0 : Int) ≤ at0 ∧ at0 ≤ 3002 := e_at0 ▸ hW.1 10
  have b_fk : (0 : Int) ≤ fk ∧ fk ≤ 6 := e_fk ▸ hW.1 16
  have b_nd : (0 : Int) ≤ nd ∧ nd ≤ 6999 := e_nd ▸ hW.1 31
  have b_sy : (0 : Int) ≤ sy ∧ sy ≤ 202 := e_sy ▸ hW.1 19
  have b_na : (0 : Int) ≤ na ∧ na ≤ 200 := e_na ▸ hW.1 28
  have b_vi : (0 : Int) ≤ vi ∧ vi ≤ 202 := e_vi ▸ hW.1 29
  have b_le : (0 : Int) ≤ le ∧ le ≤ 3000 := e_le ▸ hW.2 4 _
  have b_op0 : (-2147483648 : Int) ≤ op0 ∧ op0 ≤ 2147483647 := e_op0 ▸ hW.1 15
  have z_tk0 := tz_f tk0
  have b_tk0 : (0 : Int) ≤ tk0 ∧ tk0 ≤ 5 := e_tk0 ▸ hW.1 11
  intro L Gx Ax n at1 tk1 fk1 nd1 op1 sy1 na1 sa1 ka1 ec1 gL_0 gL_1 gL_2 hWx hFx hPx hSx hVx ex_at1 ex_tk1 ex_fk1 ex_nd1 ex_op1 ex_sy1 ex_na1 ex_sa1 ex_ka1 ex_ec1 fx_9 fx_29 rx_n iv_0 iv_1 iv_2 iv_3 iv_4 iv_5 iv_6 iv_7 iv_8 iv_9 iv_10 iv_11 iv_12 iv_13
  have b_at1 : (0 : Int) ≤ at1 ∧ at1 ≤ 3002 := ex_at1 ▸ hWx.1 10
  have z_tk1 := tz_f tk1
  have b_tk1 : (0 : Int) ≤ tk1 ∧ tk1 ≤ 5 := ex_tk1 ▸ hWx.1 11
  have b_fk1 : (0 : Int) ≤ fk1 ∧ fk1 ≤ 6 := ex_fk1 ▸ hWx.1 16
  have b_nd1 : (0 : Int) ≤ nd1 ∧ nd1 ≤ 6999 := ex_nd1 ▸ hWx.1 31
  have b_op1 : (-2147483648 : Int) ≤ op1 ∧ op1 ≤ 2147483647 := ex_op1 ▸ hWx.1 15
  have b_sy1 : (0 : Int) ≤ sy1 ∧ sy1 ≤ 202 := ex_sy1 ▸ hWx.1 19
  have b_na1 : (0 : Int) ≤ na1 ∧ na1 ≤ 200 := ex_na1 ▸ hWx.1 28
  refine jx_ld (pc' := 86) (l' := L) (st' := [.ref 66]) rfl (jl_aloadn gL_0) ?_
  refine jx_ld (pc' := 87) (l' := L) (st' := [.ref 66, .ref 66]) rfl (jl_aloadn gL_0) ?_
  refine jx_ar (pc' := 89) (st' := [.int (i32 (61)), .ref 66, .ref 66]) rfl rfl rfl rfl ?_
  have b464 : (-2147483648 : Int) ≤ Gx 13 ∧ Gx 13 ≤ 2147483647 := hWx.1 13
  refine jx_vr (pc' := 92) (as := [.int (i32 (61))]) (st := [.ref 66]) rfl rfl rfl rfl ⟨rfl, rfl, Nat.le_of_ble_eq_true rfl⟩ rfl rfl (c_is (dd := d) (hd := by omega) (hW := hWx) (k := 61) (tk := tk1) (e_tk := show Gx 11 = tk1 from (ex_tk1)) (tn := Gx 13) (e_tn := show Gx 13 = Gx 13 from rfl)  (h_k := ⟨(by decide), (by decide)⟩)  ) (fun o V' hq => ?_)
  obtain ⟨r465, rfl, rfl, b466, q467⟩ := hq
  refine .inr ⟨_, rfl, ?_⟩
  rcases q467 with ⟨rfl, a468, a469, a470⟩ | rfl
  · have _q : True := trivial
    refine jx_vr (pc' := 95) (as := [.int (i32 (1))]) (st := []) rfl rfl rfl rfl ⟨rfl, rfl, Nat.le_of_ble_eq_true rfl⟩ rfl rfl (c_need (dd := d) (hd := by omega) (hW := hWx) (g := 1) (ln := ln) (e_ln := show Gx 9 = ln from (fx_9)) (le := le) (e_le := show Ax 4 (ln).toNat = le from (congrFun (hFx.2 4 rfl) _).trans (e_le)) (at0 := at1) (e_at0 := show Gx 10 = at1 from (ex_at1)) (fk := fk1) (e_fk := show Gx 16 = fk1 from (ex_fk1)) (tk0 := tk1) (e_tk0 := show Gx 11 = tk1 from (ex_tk1))  (h_g := ⟨(by decide), (by decide)⟩)  (p_0 := by omega)) (fun o V' hq => ?_)
    obtain ⟨G471, A472, at2_473, tk2_474, fk2_475, rfl, rfl, hW476, hF477, e478, e479, e480, p481, p482, q483⟩ := hq
    have hF484 := Fr_tr hFx hF477 (Fr_sub (by decide)) (Fr_sub (by decide))
    have hP485 := Pf_f hPx hF477 (by decide)
    have hS486 := Fx_f hSx hF477 (by decide)
    have hV487 := Fx_f hVx hF477 (by decide)
    have sf488 : ND A472 (n) (29) (sa1) (0) (0) (0) (0) (0) := ND_ag (by omega) (Ag_fr hF477 (by decide)) iv_12
    have ec489 : ecn A472 (G471 31) = ec1 := (ecn_f (hF477.2 15 rfl) (hF477.1 31 rfl)).trans ex_ec1
    have bat2_473 : (0 : Int) ≤ at2_473 ∧ at2_473 ≤ 3002 := e478 ▸ hW476.1 10
    have ztk2_474 := tz_b tk2_474
    have btk2_474 : (0 : Int) ≤ tk2_474 ∧ tk2_474 ≤ 5 := e479 ▸ hW476.1 11
    have bfk2_475 : (0 : Int) ≤ fk2_475 ∧ fk2_475 ≤ 6 := e480 ▸ hW476.1 16
    refine .inl ⟨rfl, ?_⟩
    rcases q483 with ⟨a490, a491, a492, a493⟩ | ⟨a494, a495, a496, a497⟩
    · have _q : True := trivial
      have z498 := tz_f (tk2_474)
      exact c_readPar_w_at_95p (X := X) (k := k) (hP := hP) (d := d) (Vs := Vs) (sb := sb) (pb := pb) (hvb := hvb) (c0 := c0) (c1 := c1) (G := G) (A := A) (T := T) (lv := lv) (ln := ln) (li := li) (at0 := at0) (fk := fk) (nd := nd) (sy := sy) (na := na) (vi := vi) (le := le) (op0 := op0) (tk0 := tk0) (ec := ec) (hd := hd) (hW := hW) (e_ln := e_ln) (e_li := e_li) (e_at0 := e_at0) (e_fk := e_fk) (e_nd := e_nd) (e_sy := e_sy) (e_na := e_na) (e_vi := e_vi) (e_le := e_le) (e_op0 := e_op0) (e_tk0 := e_tk0) (e_ec := e_ec) (i_LT := i_LT) (i_SV := i_SV) (i_PQ := i_PQ) (h_lv := h_lv) (p_0 := p_0) (p_1 := p_1) (p_2 := p_2) (p_3 := p_3) (p_4 := p_4) (p_5 := p_5) (p_6 := p_6) (p_7 := p_7) (p_8 := p_8) (p_9 := p_9) (p_10 := p_10) L G471 A472 (n) (at2_473) (tk2_474) (fk2_475) (nd1) (op1) (sy1) (na1) (ec1) gL_0 gL_1 gL_2 hW476 hF484 hP485 hS486 hV487 ((e478)) ((e479)) ((e480)) (((hF477.1 31 rfl).trans (ex_nd1))) (((hF477.1 15 rfl).trans (ex_op1))) (((hF477.1 19 rfl).trans (ex_sy1))) (((hF477.1 28 rfl).trans (ex_na1))) (ec489) (((hF477.1 9 rfl).trans (fx_9))) (((hF477.1 29 rfl).trans (fx_29))) (by omega) (by omega) (by omega) (by omega) (by omega) (by omega) (by omega) (by omega) (by omega)
    · have _q : True := trivial
      have z499 := tz_f (tk2_474)
      exact c_readPar_w_at_95 (X := X) (k := k) (hP := hP) (d := d) (Vs := Vs) (sb := sb) (pb := pb) (hvb := hvb) (c0 := c0) (c1 := c1) (G := G) (A := A) (T := T) (lv := lv) (ln := ln) (li := li) (at0 := at0) (fk := fk) (nd := nd) (sy := sy) (na := na) (vi := vi) (le := le) (op0 := op0) (tk0 := tk0) (ec := ec) (hd := hd) (hW := hW) (e_ln := e_ln) (e_li := e_li) (e_at0 := e_at0) (e_fk := e_fk) (e_nd := e_nd) (e_sy := e_sy) (e_na := e_na) (e_vi := e_vi) (e_le := e_le) (e_op0 := e_op0) (e_tk0 := e_tk0) (e_ec := e_ec) (i_LT := i_LT) (i_SV := i_SV) (i_PQ := i_PQ) (h_lv := h_lv) (p_0 := p_0) (p_1 := p_1) (p_2 := p_2) (p_3 := p_3) (p_4 := p_4) (p_5 := p_5) (p_6 := p_6) (p_7 := p_7) (p_8 := p_8) (p_9 := p_9) (p_10 := p_10) L G471 A472 (n) (at2_473) (tk2_474) (fk2_475) (nd1) (op1) (sy1) (na1) (sa1) (ka1) (ec1) gL_0 gL_1 gL_2 hW476 hF484 hP485 hS486 hV487 ((e478)) ((e479)) ((e480)) (((hF477.1 31 rfl).trans (ex_nd1))) (((hF477.1 15 rfl).trans (ex_op1))) (((hF477.1 19 rfl).trans (ex_sy1))) (((hF477.1 28 rfl).trans (ex_na1))) ((congrFun (hF477.2 17 rfl) _).trans (ex_sa1)) ((congrFun (hF477.2 7 rfl) _).trans (ex_ka1)) (ec489) (((hF477.1 9 rfl).trans (fx_9))) (((hF477.1 29 rfl).trans (fx_29))) (by omega) (by omega) (by omega) (by omega) (by omega) (by omega) (by omega) (by omega) (by omega) (by omega) (by omega) (by omega) (by omega) (sf488) (by omega)
  · have _q : True := trivial
    refine jx_vr (pc' := 95) (as := [.int (i32 (0))]) (st := []) rfl rfl rfl rfl ⟨rfl, rfl, Nat.le_of_ble_eq_true rfl⟩ rfl rfl (c_need (dd := d) (hd := by omega) (hW := hWx) (g := 0) (ln := ln) (e_ln := show Gx 9 = ln from (fx_9)) (le := le) (e_le := show Ax 4 (ln).toNat = le from (congrFun (hFx.2 4 rfl) _).trans (e_le)) (at0 := at1) (e_at0 := show Gx 10 = at1 from (ex_at1)) (fk := fk1) (e_fk := show Gx 16 = fk1 from (ex_fk1)) (tk0 := tk1) (e_tk0 := show Gx 11 = tk1 from (ex_tk1))  (h_g := ⟨(by decide), (by decide)⟩)  (p_0 := by omega)) (fun o V' hq => ?_)
    obtain ⟨G500, A501, at2_502, tk2_503, fk2_504, rfl, rfl, hW505, hF506, e507, e508, e509, p510, p511, q512⟩ := hq
    have hF513 := Fr_tr hFx hF506 (Fr_sub (by decide)) (Fr_sub (by decide))
    have hP514 := Pf_f hPx hF506 (by decide)
    have hS515 := Fx_f hSx hF506 (by decide)
    have hV516 := Fx_f hVx hF506 (by decide)
    have sf517 : ND A501 (n) (29) (sa1) (0) (0) (0) (0) (0) := ND_ag (by omega) (Ag_fr hF506 (by decide)) iv_12
    have ec518 : ecn A501 (G500 31) = ec1 := (ecn_f (hF506.2 15 rfl) (hF506.1 31 rfl)).trans ex_ec1
    have bat2_502 : (0 : Int) ≤ at2_502 ∧ at2_502 ≤ 3002 := e507 ▸ hW505.1 10
    have ztk2_503 := tz_b tk2_503
    have btk2_503 : (0 : Int) ≤ tk2_503 ∧ tk2_503 ≤ 5 := e508 ▸ hW505.1 11
    have bfk2_504 : (0 : Int) ≤ fk2_504 ∧ fk2_504 ≤ 6 := e509 ▸ hW505.1 16
    refine .inl ⟨rfl, ?_⟩
    rcases q512 with ⟨a519, a520, a521, a522⟩ | ⟨a523, a524, a525, a526⟩
    · have _q : True := trivial
      have z527 := tz_f (tk2_503)
      exact c_readPar_w_at_95p (X := X) (k := k) (hP := hP) (d := d) (Vs := Vs) (sb := sb) (pb := pb) (hvb := hvb) (c0 := c0) (c1 := c1) (G := G) (A := A) (T := T) (lv := lv) (ln := ln) (li := li) (at0 := at0) (fk := fk) (nd := nd) (sy := sy) (na := na) (vi := vi) (le := le) (op0 := op0) (tk0 := tk0) (ec := ec) (hd := hd) (hW := hW) (e_ln := e_ln) (e_li := e_li) (e_at0 := e_at0) (e_fk := e_fk) (e_nd := e_nd) (e_sy := e_sy) (e_na := e_na) (e_vi := e_vi) (e_le := e_le) (e_op0 := e_op0) (e_tk0 := e_tk0) (e_ec := e_ec) (i_LT := i_LT) (i_SV := i_SV) (i_PQ := i_PQ) (h_lv := h_lv) (p_0 := p_0) (p_1 := p_1) (p_2 := p_2) (p_3 := p_3) (p_4 := p_4) (p_5 := p_5) (p_6 := p_6) (p_7 := p_7) (p_8 := p_8) (p_9 := p_9) (p_10 := p_10) L G500 A501 (n) (at2_502) (tk2_503) (fk2_504) (nd1) (op1) (sy1) (na1) (ec1) gL_0 gL_1 gL_2 hW505 hF513 hP514 hS515 hV516 ((e507)) ((e508)) ((e509)) (((hF506.1 31 rfl).trans (ex_nd1))) (((hF506.1 15 rfl).trans (ex_op1))) (((hF506.1 19 rfl).trans (ex_sy1))) (((hF506.1 28 rfl).trans (ex_na1))) (ec518) (((hF506.1 9 rfl).trans (fx_9))) (((hF506.1 29 rfl).trans (fx_29))) (by omega) (by omega) (by omega) (by omega) (by omega) (by omega) (by omega) (by omega) (by omega)
    · have _q : True := trivial
      exfalso
      omega
set_option maxRecDepth 20000 in
set_option maxHeartbeats 4000000 in
theorem c_readPar_w {X : jX} {k : Nat} (hP : RPw X k) {dd : Nat} {Vs : Nat → Prop} {sb pb : Int} (hvb : VB Vs sb) {c0 c1 : jC} {G : Nat → Int} {A : Nat → Nat → Int} {T : jH} {lv : Int} {ln li at0 fk nd sy na vi le op0 tk0 ec : Int} (hd : 8 * k + 82 ≤ dd) (hW : Wk G A) (e_ln : G 9 = ln) (e_li : G 3 = li) (e_at0 : G 10 = at0) (e_fk : G 16 = fk) (e_nd : G 31 = nd) (e_sy : G 19 = sy) (e_na : G 28 = na) (e_vi : G 29 = vi) (e_le : A 4 (ln).toNat = le) (e_op0 : G 15 = op0) (e_tk0 : G 11 = tk0) (e_ec : ecn A (G 31) = ec) (i_LT : LT G A) (i_SV : SV Vs sb G A) (i_PQ : PQ Vs sb pb G A) (h_lv : (-2147483648 : Int) ≤ lv ∧ lv ≤ 2147483647) (p_0 : 0 ≤ lv ∧ lv ≤ 15) (p_1 : 18 - lv ≤ ((k + 1 : Nat) : Int)) (p_2 : fk = 0) (p_3 : ln < li) (p_4 : at0 ≤ le) (p_5 : op0 = 0) (p_6 : nd ≤ 2 * at0 - tz tk0 + 30) (p_7 : sy ≤ na + 2) (p_8 : vi ≤ sy) (p_9 : sb = sy) (p_10 : 1 ≤ tk0) : wk X dd 299 [.ref 66, .int (i32 lv)] (rV c0 c1 G A T) (fun o V' => ∃ (G' : Nat → Int) (A' : Nat → Nat → Int) (r : Int) (ln2 : Int) (at2 : Int) (fk2 : Int) (nd2 : Int) (sy2 : Int) (na2 : Int) (vi2 : Int) (lf2 : Int) (ec2 : Int), V' = rV c0 c1 G' A' T ∧ o = .inl (some (.int (i32 r))) ∧ Wk G' A' ∧ Fr [9, 10, 11, 12, 13, 14, 15, 16, 17, 18, 19, 28, 29, 31] [6, 7, 8, 9, 10, 11, 12, 14, 15, 16, 17, 18, 19, 20, 21, 22, 23, 24, 28] G A G' A' ∧ Pf nd A A' ∧ Fx sr (sy) A A' ∧ Fx [14] (vi) A A' ∧ ((-2147483648 : Int) ≤ r ∧ r ≤ 2147483647) ∧ G' 9 = ln2 ∧ G' 10 = at2 ∧ G' 16 = fk2 ∧ G' 31 = nd2 ∧ G' 19 = sy2 ∧ G' 28 = na2 ∧ G' 29 = vi2 ∧ A' 3 (ln2).toNat = lf2 ∧ ecn A' (G' 31) = ec2 ∧ (at0 ≤ at2) ∧ (nd ≤ nd2) ∧ (sy ≤ sy2) ∧ (sy2 ≤ na2 + 2) ∧ (vi ≤ vi2) ∧ (vi2 ≤ vi + 1) ∧ (0 ≤ r) ∧ (r ≤ 6999) ∧ (ln ≤ ln2) ∧ (ln2 ≤ li) ∧ (((1 ≤ fk2) ∧ (nd2 - nd ≤ 2 * at2 - (2 * at0 - tz tk0) + 14)) ∨ ((fk2 = 0) ∧ (vi2 = vi) ∧ (ln < ln2) ∧ (nd2 - nd ≤ 2 * at2 - (2 * at0 - tz tk0)) ∧ (at2 < lf2 ∨ li ≤ ln2) ∧ (nd ≤ r) ∧ (r < nd2) ∧ (wSt A' (sy2) pb (wP A' (sy2) pb (k)) (Vs) (r) (nd) (nd2) (sy) (sy2)) ∧ (NX A' (r)) ∧ (nd2 - nd + 5 * (ec2 - ec) ≤ 2 * at2 - (2 * at0 - tz tk0)) ∧ (nd + 5 * ec ≤ r)))) := by
  obtain ⟨d, rfl⟩ : ∃ d, dd = d + 1 := ⟨dd - 1, by omega⟩
  refine wk_of (e := jm299) rfl (Nat.le_of_ble_eq_true rfl) ?_
  show wj X d jm299 (0, [(0, .ref 66), (1, .int (i32 (lv)))], [], rV c0 c1 G A T) _
  have hF0 : Fr [9, 10, 11, 12, 13, 14, 15, 16, 17, 18, 19, 28, 29, 31] [6, 7, 8, 9, 10, 11, 12, 14, 15, 16, 17, 18, 19, 20, 21, 22, 23, 24, 28] G A G A := Fr_rf
  have hP0 : Pf nd A A := Pf_rf
  have hS0 : Fx sr (sy) A A := Fx_rf
  have hV0 : Fx [14] (vi) A A := Fx_rf
  have b_ln : (0 : Int) ≤ ln ∧ ln ≤ 3000 := e_ln ▸ hW.1 9
  have b_li : (0 : Int) ≤ li ∧ li ≤ 3000 := e_li ▸ hW.1 3
  have b_at0 : (0 : Int) ≤ at0 ∧ at0 ≤ 3002 := e_at0 ▸ hW.1 10
  have b_fk : (0 : Int) ≤ fk ∧ fk ≤ 6 := e_fk ▸ hW.1 16
  have b_nd : (0 : Int) ≤ nd ∧ nd ≤ 6999 := e_nd ▸ hW.1 31
  have b_sy : (0 : Int) ≤ sy ∧ sy ≤ 202 := e_sy ▸ hW.1 19
  have b_na : (0 : Int) ≤ na ∧ na ≤ 200 := e_na ▸ hW.1 28
  have b_vi : (0 : Int) ≤ vi ∧ vi ≤ 202 := e_vi ▸ hW.1 29
  have b_le : (0 : Int) ≤ le ∧ le ≤ 3000 := e_le ▸ hW.2 4 _
  have b_op0 : (-2147483648 : Int) ≤ op0 ∧ op0 ≤ 2147483647 := e_op0 ▸ hW.1 15
  have z_tk0 := tz_f tk0
  have b_tk0 : (0 : Int) ≤ tk0 ∧ tk0 ≤ 5 := e_tk0 ▸ hW.1 11
  refine jx_ld (pc' := 1) (l' := [(0, .ref 66), (1, .int (i32 (lv)))]) (st' := [.ref 66]) rfl (jl_aloadn rfl) ?_
  refine jx_vr (pc' := 4) (as := []) (st := []) rfl rfl rfl rfl ⟨rfl, rfl, Nat.le_of_ble_eq_true rfl⟩ rfl rfl (c_next (dd := d) (hd := by omega) (hW := hW)  (ln := ln) (e_ln := show G 9 = ln from (e_ln)) (le := le) (e_le := show A 4 (ln).toNat = le from (e_le)) (at0 := at0) (e_at0 := show G 10 = at0 from (e_at0))    (p_0 := by omega)) (fun o V' hq => ?_)
  obtain ⟨G528, A529, at2_530, tk2_531, rfl, rfl, hW532, hF533, e534, e535, p536, p537, p538, -⟩ := hq
  have hF540 := Fr_tr hF0 hF533 (Fr_sub (by decide)) (Fr_sub (by decide))
  have hP541 := Pf_f hP0 hF533 (by decide)
  have hS542 := Fx_f hS0 hF533 (by decide)
  have hV543 := Fx_f hV0 hF533 (by decide)
  have ec544 : ecn A529 (G528 31) = ec := (ecn_f (hF533.2 15 rfl) (hF533.1 31 rfl)).trans e_ec
  have bat2_530 : (0 : Int) ≤ at2_530 ∧ at2_530 ≤ 3002 := e534 ▸ hW532.1 10
  have ztk2_531 := tz_b tk2_531
  have btk2_531 : (0 : Int) ≤ tk2_531 ∧ tk2_531 ≤ 5 := e535 ▸ hW532.1 11
  refine .inl ⟨rfl, ?_⟩
  refine jx_ld (pc' := 5) (l' := [(0, .ref 66), (1, .int (i32 (lv)))]) (st' := [.ref 66]) rfl (jl_aloadn rfl) ?_
  have z545 := tz_f (tk2_531)
  refine jr_get (pc' := 8) (i := 11) (v := .int (i32 (tk2_531))) rfl rfl (by decide) (rFv_eq (by decide) (show G528 11 = tk2_531 from (e535))) rfl ?_
  refine jx_if_ne (pc' := 11) (tg := 37) rfl rfl rfl (Int.le_trans (by decide : (-2147483648 : Int) ≤ 0) btk2_531.1) (Int.le_trans btk2_531.2 (by decide : (5 : Int) ≤ 2147483647)) (fun h546 => ?_) (fun h546 => ?_)
  · have _q := h546
    refine jx_ld (pc' := 38) (l' := [(0, .ref 66), (1, .int (i32 (lv)))]) (st' := [.ref 66]) rfl (jl_aloadn rfl) ?_
    have z547 := tz_f (tk2_531)
    refine jr_get (pc' := 41) (i := 11) (v := .int (i32 (tk2_531))) rfl rfl (by decide) (rFv_eq (by decide) (show G528 11 = tk2_531 from (e535))) rfl ?_
    refine jx_ar (pc' := 42) (st' := [.int (i32 (1)), .int (i32 (tk2_531))]) rfl rfl rfl rfl ?_
    refine jx_icmp_eq (pc' := 45) (tg := 56) rfl rfl rfl (Int.le_trans (by decide : (-2147483648 : Int) ≤ 0) btk2_531.1) (Int.le_trans btk2_531.2 (by decide : (5 : Int) ≤ 2147483647)) (by decide) (by decide) (fun h548 => ?_) (fun h548 => ?_)
    · have _q := h548
      refine jx_ld (pc' := 57) (l' := [(0, .ref 66), (1, .int (i32 (lv)))]) (st' := [.ref 66]) rfl (jl_aloadn rfl) ?_
      refine jx_ar (pc' := 59) (st' := [.int (i32 (29)), .ref 66]) rfl rfl rfl rfl ?_
      refine jx_ar (pc' := 60) (st' := [.int (i32 (0)), .int (i32 (29)), .ref 66]) rfl rfl rfl rfl ?_
      refine jx_ar (pc' := 61) (st' := [.int (i32 (0)), .int (i32 (0)), .int (i32 (29)), .ref 66]) rfl rfl rfl rfl ?_
      refine jx_ar (pc' := 62) (st' := [.int (i32 (0)), .int (i32 (0)), .int (i32 (0)), .int (i32 (29)), .ref 66]) rfl rfl rfl rfl ?_
      refine jx_ar (pc' := 63) (st' := [.int (i32 (0)), .int (i32 (0)), .int (i32 (0)), .int (i32 (0)), .int (i32 (29)), .ref 66]) rfl rfl rfl rfl ?_
      refine jx_vr (pc' := 66) (as := [.int (i32 (29)), .int (i32 (0)), .int (i32 (0)), .int (i32 (0)), .int (i32 (0))]) (st := []) rfl rfl rfl rfl ⟨rfl, rfl, Nat.le_of_ble_eq_true rfl⟩ rfl rfl (c_node_o (dd := d) (hd := by omega) (hW := hW532) (kind := 29) (a := 0) (b := 0) (c := 0) (e := 0) (nd := nd) (e_nd := show G528 31 = nd from ((hF533.1 31 rfl).trans (e_nd))) (ec := ec) (e_ec := show ecn A529 (G528 31) = ec from ec544)  (h_kind := ⟨(by decide), (by decide)⟩) (h_a := ⟨(by decide), (by decide)⟩) (h_b := ⟨(by decide), (by decide)⟩) (h_c := ⟨(by decide), (by decide)⟩) (h_e := ⟨(by decide), (by decide)⟩)  (p_0 := by omega) (p_1 := by omega) (p_2 := by omega)) (fun o V' hq => ?_)
      obtain ⟨G549, A550, nd2_551, ec2_552, rfl, rfl, hW553, hF554, hQ555, e556, e557, p558, p559, p560, -⟩ := hq
      have hF562 := Fr_tr hF540 hF554 (Fr_sub (by decide)) (Fr_sub (by decide))
      have hP563 := Pf_tr hP541 hQ555 (by omega)
      have hS564 := Fx_f hS542 hF554 (by decide)
      have hV565 := Fx_f hV543 hF554 (by decide)
      have bnd2_551 : (0 : Int) ≤ nd2_551 ∧ nd2_551 ≤ 6999 := e556 ▸ hW553.1 31
      refine .inr ⟨_, rfl, ?_⟩
      refine jx_ld (pc' := 67) (l' := jSto1 [(0, .ref 66), (1, .int (i32 (lv)))] 2 (.int (i32 (nd)))) (st' := []) rfl rfl ?_
      obtain ⟨L566, eL566⟩ : ∃ q, q = jSto1 [(0, .ref 66), (1, .int (i32 (lv)))] 2 (.int (i32 (nd))) := ⟨_, rfl⟩
      rw [← eL566]
      have gL566_0 : jGet L566 0 = some (.ref 66) := eL566 ▸ jg_ne (by decide) (rfl : jGet [(0, .ref 66), (1, .int (i32 (lv)))] 0 = some (.ref 66)) rfl
      have gL566_1 : jGet L566 1 = some (.int (i32 (lv))) := eL566 ▸ jg_ne (by decide) (rfl : jGet [(0, .ref 66), (1, .int (i32 (lv)))] 1 = some (.int (i32 (lv)))) rfl
      have gL566_2 : jGet L566 2 = some (.int (i32 (nd))) := eL566 ▸ jg_eq
      refine jx_ld (pc' := 68) (l' := L566) (st' := [.ref 66]) rfl (jl_aloadn gL566_0) ?_
      refine jr_get (pc' := 71) (i := 34) (v := .ref 84) rfl rfl (by decide) rfl rfl ?_
      refine jx_ld (pc' := 72) (l' := L566) (st' := [.int (i32 (nd)), .ref 84]) rfl (jl_iloadn gL566_2) ?_
      refine jx_ld (pc' := 73) (l' := L566) (st' := [.ref 66, .int (i32 (nd)), .ref 84]) rfl (jl_aloadn gL566_0) ?_
      refine jx_ar (pc' := 75) (st' := [.int (i32 (10)), .ref 66, .int (i32 (nd)), .ref 84]) rfl rfl rfl rfl ?_
      refine jx_ar (pc' := 76) (st' := [.int (i32 (0)), .int (i32 (10)), .ref 66, .int (i32 (nd)), .ref 84]) rfl rfl rfl rfl ?_
      refine jx_vr (pc' := 79) (as := [.int (i32 (10)), .int (i32 (0))]) (st := [.int (i32 (nd)), .ref 84]) rfl rfl rfl rfl ⟨rfl, rfl, Nat.le_of_ble_eq_true rfl⟩ rfl rfl (c_newName (dd := d) (hd := by omega) (hW := hW553) (kind := 10) (many := 0) (sy := sy) (e_sy := show G549 19 = sy from ((hF554.1 19 rfl).trans ((hF533.1 19 rfl).trans (e_sy)))) (na := na) (e_na := show G549 28 = na from ((hF554.1 28 rfl).trans ((hF533.1 28 rfl).trans (e_na)))) (fk := fk) (e_fk := show G549 16 = fk from ((hF554.1 16 rfl).trans ((hF533.1 16 rfl).trans (e_fk))))  (h_kind := ⟨(by decide), (by decide)⟩) (h_many := ⟨(by decide), (by decide)⟩)  (p_0 := by omega) (p_1 := by omega)) (fun o V' hq => ?_)
      obtain ⟨G567, A568, r569, sy2_570, na2_571, fk2_572, yk2_573, rfl, rfl, hW574, hF575, hQ576, b577, e578, e579, e580, e581, q582⟩ := hq
      have hF583 := Fr_tr hF562 hF575 (Fr_sub (by decide)) (Fr_sub (by decide))
      have hP584 := Pf_f hP563 hF575 (by decide)
      have hS585 := Fx_tr hS564 hQ576 (by omega)
      have hV586 := Fx_f hV565 hF575 (by decide)
      have sf587 : ND A568 (nd) (29) (0) (0) (0) (0) (0) (0) := ND_ag (by omega) (Ag_fr hF575 (by decide)) p560
      have ec588 : ecn A568 (G567 31) = ec2_552 := (ecn_f (hF575.2 15 rfl) (hF575.1 31 rfl)).trans e557
      have bsy2_570 : (0 : Int) ≤ sy2_570 ∧ sy2_570 ≤ 202 := e578 ▸ hW574.1 19
      have bna2_571 : (0 : Int) ≤ na2_571 ∧ na2_571 ≤ 200 := e579 ▸ hW574.1 28
      have bfk2_572 : (0 : Int) ≤ fk2_572 ∧ fk2_572 ≤ 6 := e580 ▸ hW574.1 16
      have byk2_573 : (0 : Int) ≤ yk2_573 ∧ yk2_573 ≤ 14 := e581 ▸ hW574.2 7 _
      refine .inr ⟨_, rfl, ?_⟩
      rcases q582 with ⟨a595, a589, a590, a591, a592, a593, a594⟩ | ⟨rfl, a596, a597, a598⟩
      · have _q : True := trivial
        rw [a595]
        refine jr_st (pc' := 80) (i := 17) (m := 7000) (z := nd) (y := sy) rfl (by decide) rfl (by decide) (by omega) (by omega) rfl ?_
        have hW600 : Wk G567 (uA A568 17 (nd).toNat (sy)) := Wk_a hW574 (show (-2147483648 : Int) ≤ sy by omega) (show sy ≤ (2147483647 : Int) by omega)
        have hF601 := Fr_a (z := sy) (k := 17) (n := (nd).toNat) hF583 (by decide)
        obtain ⟨A599, eA599⟩ : ∃ q, q = uA A568 17 (nd).toNat (sy) := ⟨_, rfl⟩
        rw [← eA599]
        rw [← eA599] at hW600 hF601
        have q602 : A599 17 (nd).toNat = sy := by rw [eA599]; exact uA_eq
        have hP603 : Pf nd A A599 := eA599 ▸ Pf_a hP584 (z := nd) (by omega) (by omega)
        have hS604 : Fx sr (sy) A A599 := eA599 ▸ Fx_n hS585 rfl
        have hV605 : Fx [14] (vi) A A599 := eA599 ▸ Fx_n hV586 rfl
        have sf606 : ND A599 (nd) (29) (sy) (0) (0) (0) (0) (0) := ND_a eA599 sf587
        have sf607 : YD A599 (sy) (10) (0) := YD_fx (by omega) (by omega) (Sg_ne (sb := sy + 1) eA599 rfl) a594
        have ec608 : ecn A599 (G567 31) = ec2_552 := (ecn_e ((congrFun eA599 15).trans (uA_ne (by decide)))).trans ec588
        refine jx_ld (pc' := 81) (l' := L566) (st' := [.ref 66]) rfl (jl_aloadn gL566_0) ?_
        refine jx_ar (pc' := 82) (st' := [.int (i32 (1)), .ref 66]) rfl rfl rfl rfl ?_
        refine jx_vr (pc' := 85) (as := [.int (i32 (1))]) (st := []) rfl rfl rfl rfl ⟨rfl, rfl, Nat.le_of_ble_eq_true rfl⟩ rfl rfl (c_need (dd := d) (hd := by omega) (hW := hW600) (g := 1) (ln := ln) (e_ln := show G567 9 = ln from ((hF575.1 9 rfl).trans ((hF554.1 9 rfl).trans ((hF533.1 9 rfl).trans (e_ln))))) (le := le) (e_le := show A599 4 (ln).toNat = le from (congrFun (((congrFun eA599 4).trans (uA_ne (by decide))).trans ((hF575.2 4 rfl).trans ((hF554.2 4 rfl).trans (hF533.2 4 rfl)))) _).trans (e_le)) (at0 := at2_530) (e_at0 := show G567 10 = at2_530 from ((hF575.1 10 rfl).trans ((hF554.1 10 rfl).trans (e534)))) (fk := fk2_572) (e_fk := show G567 16 = fk2_572 from (e580)) (tk0 := tk2_531) (e_tk0 := show G567 11 = tk2_531 from ((hF575.1 11 rfl).trans ((hF554.1 11 rfl).trans (e535))))  (h_g := ⟨(by decide), (by decide)⟩)  (p_0 := by omega)) (fun o V' hq => ?_)
        obtain ⟨G609, A610, at2_611, tk2_612, fk2_613, rfl, rfl, hW614, hF615, e616, e617, e618, p619, p620, q621⟩ := hq
        have hF622 := Fr_tr hF601 hF615 (Fr_sub (by decide)) (Fr_sub (by decide))
        have hP623 := Pf_f hP603 hF615 (by decide)
        have hS624 := Fx_f hS604 hF615 (by decide)
        have hV625 := Fx_f hV605 hF615 (by decide)
        have sf626 : ND A610 (nd) (29) (sy) (0) (0) (0) (0) (0) := ND_ag (by omega) (Ag_fr hF615 (by decide)) sf606
        have sf627 : YD A610 (sy) (10) (0) := YD_fx (by omega) (by omega) (Sg_fr (sb := sy + 1) hF615 (by decide)) sf607
        have ec628 : ecn A610 (G609 31) = ec2_552 := (ecn_f (hF615.2 15 rfl) (hF615.1 31 rfl)).trans ec608
        have bat2_611 : (0 : Int) ≤ at2_611 ∧ at2_611 ≤ 3002 := e616 ▸ hW614.1 10
        have ztk2_612 := tz_b tk2_612
        have btk2_612 : (0 : Int) ≤ tk2_612 ∧ tk2_612 ≤ 5 := e617 ▸ hW614.1 11
        have bfk2_613 : (0 : Int) ≤ fk2_613 ∧ fk2_613 ≤ 6 := e618 ▸ hW614.1 16
        refine .inl ⟨rfl, ?_⟩
        rcases q621 with ⟨a629, a630, a631, a632⟩ | ⟨a633, a634, a635, a636⟩
        · have _q : True := trivial
          have z637 := tz_f (tk2_612)
          exact c_readPar_w_at_85p (X := X) (k := k) (hP := hP) (d := d) (Vs := Vs) (sb := sb) (pb := pb) (hvb := hvb) (c0 := c0) (c1 := c1) (G := G) (A := A) (T := T) (lv := lv) (ln := ln) (li := li) (at0 := at0) (fk := fk) (nd := nd) (sy := sy) (na := na) (vi := vi) (le := le) (op0 := op0) (tk0 := tk0) (ec := ec) (hd := hd) (hW := hW) (e_ln := e_ln) (e_li := e_li) (e_at0 := e_at0) (e_fk := e_fk) (e_nd := e_nd) (e_sy := e_sy) (e_na := e_na) (e_vi := e_vi) (e_le := e_le) (e_op0 := e_op0) (e_tk0 := e_tk0) (e_ec := e_ec) (i_LT := i_LT) (i_SV := i_SV) (i_PQ := i_PQ) (h_lv := h_lv) (p_0 := p_0) (p_1 := p_1) (p_2 := p_2) (p_3 := p_3) (p_4 := p_4) (p_5 := p_5) (p_6 := p_6) (p_7 := p_7) (p_8 := p_8) (p_9 := p_9) (p_10 := p_10) L566 G609 A610 (nd) (at2_611) (tk2_612) (fk2_613) (nd2_551) (op0) (sy2_570) (na2_571) (ec2_552) gL566_0 gL566_1 gL566_2 hW614 hF622 hP623 hS624 hV625 ((e616)) ((e617)) ((e618)) (((hF615.1 31 rfl).trans ((hF575.1 31 rfl).trans (e556)))) (((hF615.1 15 rfl).trans ((hF575.1 15 rfl).trans ((hF554.1 15 rfl).trans ((hF533.1 15 rfl).trans (e_op0)))))) (((hF615.1 19 rfl).trans (e578))) (((hF615.1 28 rfl).trans (e579))) (ec628) (((hF615.1 9 rfl).trans ((hF575.1 9 rfl).trans ((hF554.1 9 rfl).trans ((hF533.1 9 rfl).trans (e_ln)))))) (((hF615.1 29 rfl).trans ((hF575.1 29 rfl).trans ((hF554.1 29 rfl).trans ((hF533.1 29 rfl).trans (e_vi)))))) (by omega) (by omega) (by omega) (by omega) (by omega) (by omega) (by omega) (by omega) (by omega)
        · have _q : True := trivial
          have z638 := tz_f (tk2_612)
          exact c_readPar_w_at_85 (X := X) (k := k) (hP := hP) (d := d) (Vs := Vs) (sb := sb) (pb := pb) (hvb := hvb) (c0 := c0) (c1 := c1) (G := G) (A := A) (T := T) (lv := lv) (ln := ln) (li := li) (at0 := at0) (fk := fk) (nd := nd) (sy := sy) (na := na) (vi := vi) (le := le) (op0 := op0) (tk0 := tk0) (ec := ec) (hd := hd) (hW := hW) (e_ln := e_ln) (e_li := e_li) (e_at0 := e_at0) (e_fk := e_fk) (e_nd := e_nd) (e_sy := e_sy) (e_na := e_na) (e_vi := e_vi) (e_le := e_le) (e_op0 := e_op0) (e_tk0 := e_tk0) (e_ec := e_ec) (i_LT := i_LT) (i_SV := i_SV) (i_PQ := i_PQ) (h_lv := h_lv) (p_0 := p_0) (p_1 := p_1) (p_2 := p_2) (p_3 := p_3) (p_4 := p_4) (p_5 := p_5) (p_6 := p_6) (p_7 := p_7) (p_8 := p_8) (p_9 := p_9) (p_10 := p_10) L566 G609 A610 (nd) (at2_611) (tk2_612) (fk2_613) (nd2_551) (op0) (sy2_570) (na2_571) (sy) (yk2_573) (ec2_552) gL566_0 gL566_1 gL566_2 hW614 hF622 hP623 hS624 hV625 ((e616)) ((e617)) ((e618)) (((hF615.1 31 rfl).trans ((hF575.1 31 rfl).trans (e556)))) (((hF615.1 15 rfl).trans ((hF575.1 15 rfl).trans ((hF554.1 15 rfl).trans ((hF533.1 15 rfl).trans (e_op0)))))) (((hF615.1 19 rfl).trans (e578))) (((hF615.1 28 rfl).trans (e579))) ((congrFun (hF615.2 17 rfl) _).trans (q602)) ((congrFun ((hF615.2 7 rfl).trans ((congrFun eA599 7).trans (uA_ne (by decide)))) _).trans (e581)) (ec628) (((hF615.1 9 rfl).trans ((hF575.1 9 rfl).trans ((hF554.1 9 rfl).trans ((hF533.1 9 rfl).trans (e_ln)))))) (((hF615.1 29 rfl).trans ((hF575.1 29 rfl).trans ((hF554.1 29 rfl).trans ((hF533.1 29 rfl).trans (e_vi)))))) (by omega) (by omega) (by omega) (by omega) (by omega) (by omega) (by omega) (by omega) (by omega) (by omega) (by omega) (by omega) (by omega) (sf626) (by omega)
      · have _q : True := trivial
        refine jr_st (pc' := 80) (i := 17) (m := 7000) (z := nd) (y := 0) rfl (by decide) rfl (by decide) (by omega) (by omega) rfl ?_
        have hW640 : Wk G567 (uA A568 17 (nd).toNat (0)) := Wk_a hW574 (show (-2147483648 : Int) ≤ 0 by omega) (show 0 ≤ (2147483647 : Int) by omega)
        have hF641 := Fr_a (z := 0) (k := 17) (n := (nd).toNat) hF583 (by decide)
        obtain ⟨A639, eA639⟩ : ∃ q, q = uA A568 17 (nd).toNat (0) := ⟨_, rfl⟩
        rw [← eA639]
        rw [← eA639] at hW640 hF641
        have q642 : A639 17 (nd).toNat = 0 := by rw [eA639]; exact uA_eq
        have hP643 : Pf nd A A639 := eA639 ▸ Pf_a hP584 (z := nd) (by omega) (by omega)
        have hS644 : Fx sr (sy) A A639 := eA639 ▸ Fx_n hS585 rfl
        have hV645 : Fx [14] (vi) A A639 := eA639 ▸ Fx_n hV586 rfl
        have sf646 : ND A639 (nd) (29) (0) (0) (0) (0) (0) (0) := ND_a eA639 sf587
        have ec647 : ecn A639 (G567 31) = ec2_552 := (ecn_e ((congrFun eA639 15).trans (uA_ne (by decide)))).trans ec588
        refine jx_ld (pc' := 81) (l' := L566) (st' := [.ref 66]) rfl (jl_aloadn gL566_0) ?_
        refine jx_ar (pc' := 82) (st' := [.int (i32 (1)), .ref 66]) rfl rfl rfl rfl ?_
        refine jx_vr (pc' := 85) (as := [.int (i32 (1))]) (st := []) rfl rfl rfl rfl ⟨rfl, rfl, Nat.le_of_ble_eq_true rfl⟩ rfl rfl (c_need (dd := d) (hd := by omega) (hW := hW640) (g := 1) (ln := ln) (e_ln := show G567 9 = ln from ((hF575.1 9 rfl).trans ((hF554.1 9 rfl).trans ((hF533.1 9 rfl).trans (e_ln))))) (le := le) (e_le := show A639 4 (ln).toNat = le from (congrFun (((congrFun eA639 4).trans (uA_ne (by decide))).trans ((hF575.2 4 rfl).trans ((hF554.2 4 rfl).trans (hF533.2 4 rfl)))) _).trans (e_le)) (at0 := at2_530) (e_at0 := show G567 10 = at2_530 from ((hF575.1 10 rfl).trans ((hF554.1 10 rfl).trans (e534)))) (fk := fk2_572) (e_fk := show G567 16 = fk2_572 from (e580)) (tk0 := tk2_531) (e_tk0 := show G567 11 = tk2_531 from ((hF575.1 11 rfl).trans ((hF554.1 11 rfl).trans (e535))))  (h_g := ⟨(by decide), (by decide)⟩)  (p_0 := by omega)) (fun o V' hq => ?_)
        obtain ⟨G648, A649, at2_650, tk2_651, fk2_652, rfl, rfl, hW653, hF654, e655, e656, e657, p658, p659, q660⟩ := hq
        have hF661 := Fr_tr hF641 hF654 (Fr_sub (by decide)) (Fr_sub (by decide))
        have hP662 := Pf_f hP643 hF654 (by decide)
        have hS663 := Fx_f hS644 hF654 (by decide)
        have hV664 := Fx_f hV645 hF654 (by decide)
        have sf665 : ND A649 (nd) (29) (0) (0) (0) (0) (0) (0) := ND_ag (by omega) (Ag_fr hF654 (by decide)) sf646
        have ec666 : ecn A649 (G648 31) = ec2_552 := (ecn_f (hF654.2 15 rfl) (hF654.1 31 rfl)).trans ec647
        have bat2_650 : (0 : Int) ≤ at2_650 ∧ at2_650 ≤ 3002 := e655 ▸ hW653.1 10
        have ztk2_651 := tz_b tk2_651
        have btk2_651 : (0 : Int) ≤ tk2_651 ∧ tk2_651 ≤ 5 := e656 ▸ hW653.1 11
        have bfk2_652 : (0 : Int) ≤ fk2_652 ∧ fk2_652 ≤ 6 := e657 ▸ hW653.1 16
        refine .inl ⟨rfl, ?_⟩
        rcases q660 with ⟨a667, a668, a669, a670⟩ | ⟨a671, a672, a673, a674⟩
        · have _q : True := trivial
          have z675 := tz_f (tk2_651)
          exact c_readPar_w_at_85p (X := X) (k := k) (hP := hP) (d := d) (Vs := Vs) (sb := sb) (pb := pb) (hvb := hvb) (c0 := c0) (c1 := c1) (G := G) (A := A) (T := T) (lv := lv) (ln := ln) (li := li) (at0 := at0) (fk := fk) (nd := nd) (sy := sy) (na := na) (vi := vi) (le := le) (op0 := op0) (tk0 := tk0) (ec := ec) (hd := hd) (hW := hW) (e_ln := e_ln) (e_li := e_li) (e_at0 := e_at0) (e_fk := e_fk) (e_nd := e_nd) (e_sy := e_sy) (e_na := e_na) (e_vi := e_vi) (e_le := e_le) (e_op0 := e_op0) (e_tk0 := e_tk0) (e_ec := e_ec) (i_LT := i_LT) (i_SV := i_SV) (i_PQ := i_PQ) (h_lv := h_lv) (p_0 := p_0) (p_1 := p_1) (p_2 := p_2) (p_3 := p_3) (p_4 := p_4) (p_5 := p_5) (p_6 := p_6) (p_7 := p_7) (p_8 := p_8) (p_9 := p_9) (p_10 := p_10) L566 G648 A649 (nd) (at2_650) (tk2_651) (fk2_652) (nd2_551) (op0) (sy2_570) (na2_571) (ec2_552) gL566_0 gL566_1 gL566_2 hW653 hF661 hP662 hS663 hV664 ((e655)) ((e656)) ((e657)) (((hF654.1 31 rfl).trans ((hF575.1 31 rfl).trans (e556)))) (((hF654.1 15 rfl).trans ((hF575.1 15 rfl).trans ((hF554.1 15 rfl).trans ((hF533.1 15 rfl).trans (e_op0)))))) (((hF654.1 19 rfl).trans (e578))) (((hF654.1 28 rfl).trans (e579))) (ec666) (((hF654.1 9 rfl).trans ((hF575.1 9 rfl).trans ((hF554.1 9 rfl).trans ((hF533.1 9 rfl).trans (e_ln)))))) (((hF654.1 29 rfl).trans ((hF575.1 29 rfl).trans ((hF554.1 29 rfl).trans ((hF533.1 29 rfl).trans (e_vi)))))) (by omega) (by omega) (by omega) (by omega) (by omega) (by omega) (by omega) (by omega) (by omega)
        · have _q : True := trivial
          exfalso
          omega
    · have _q := h548
      refine jx_ld (pc' := 46) (l' := [(0, .ref 66), (1, .int (i32 (lv)))]) (st' := [.ref 66]) rfl (jl_aloadn rfl) ?_
      refine jx_ar (pc' := 47) (st' := [.int (i32 (1)), .ref 66]) rfl rfl rfl rfl ?_
      refine jx_ld (pc' := 48) (l' := [(0, .ref 66), (1, .int (i32 (lv)))]) (st' := [.ref 66, .int (i32 (1)), .ref 66]) rfl (jl_aloadn rfl) ?_
      have b676 : (-3000 : Int) ≤ G528 12 ∧ G528 12 ≤ 3002 := hW532.1 12
      refine jr_get (pc' := 51) (i := 12) (v := .int (i32 (G528 12))) rfl rfl (by decide) rfl rfl ?_
      refine jx_vr (pc' := 54) (as := [.int (i32 (1)), .int (i32 (G528 12))]) (st := []) rfl rfl rfl rfl ⟨rfl, rfl, Nat.le_of_ble_eq_true rfl⟩ rfl rfl (c_fail (dd := d) (hd := by omega) (hW := hW532) (kind := 1) (place := G528 12) (fk := fk) (e_fk := show G528 16 = fk from ((hF533.1 16 rfl).trans (e_fk)))  (h_kind := ⟨(by decide), (by decide)⟩) (h_place := ⟨(Int.le_trans (by decide : (-2147483648 : Int) ≤ -3000) b676.1), (Int.le_trans b676.2 (by decide : (3002 : Int) ≤ 2147483647))⟩)  (p_0 := by omega) (p_1 := by omega)) (fun o V' hq => ?_)
      obtain ⟨G677, A678, fk2_679, rfl, rfl, hW680, hF681, e682, p683, -⟩ := hq
      have hF685 := Fr_tr hF540 hF681 (Fr_sub (by decide)) (Fr_sub (by decide))
      have hP686 := Pf_f hP541 hF681 (by decide)
      have hS687 := Fx_f hS542 hF681 (by decide)
      have hV688 := Fx_f hV543 hF681 (by decide)
      have ec689 : ecn A678 (G677 31) = ec := (ecn_f (hF681.2 15 rfl) (hF681.1 31 rfl)).trans ec544
      have bfk2_679 : (0 : Int) ≤ fk2_679 ∧ fk2_679 ≤ 6 := e682 ▸ hW680.1 16
      refine .inl ⟨rfl, ?_⟩
      refine jx_ar (pc' := 55) (st' := [.int (i32 (0))]) rfl rfl rfl rfl ?_
      refine jx_rt (v := some (.int (i32 (0)))) rfl rfl rfl rfl rfl rfl ?_
      exact ⟨_, _, _, ln, at2_530, fk2_679, nd, sy, na, vi, A 3 (ln).toNat, ec, rfl, rfl, hW680, hF685, hP686, hS687, hV688, by omega, ((hF681.1 9 rfl).trans ((hF533.1 9 rfl).trans (e_ln))), ((hF681.1 10 rfl).trans (e534)), (e682), ((hF681.1 31 rfl).trans ((hF533.1 31 rfl).trans (e_nd))), ((hF681.1 19 rfl).trans ((hF533.1 19 rfl).trans (e_sy))), ((hF681.1 28 rfl).trans ((hF533.1 28 rfl).trans (e_na))), ((hF681.1 29 rfl).trans ((hF533.1 29 rfl).trans (e_vi))), (congrFun ((hF681.2 3 rfl).trans (hF533.2 3 rfl)) _), ec689, by omega, by omega, by omega, by omega, by omega, by omega, by omega, by omega, by omega, by omega, by first | exact Or.inl (⟨by omega, by omega⟩)⟩
  · have _q := h546
    refine jx_ld (pc' := 12) (l' := [(0, .ref 66), (1, .int (i32 (lv)))]) (st' := [.ref 66]) rfl (jl_aloadn rfl) ?_
    refine jx_ar (pc' := 14) (st' := [.int (i32 (28)), .ref 66]) rfl rfl rfl rfl ?_
    refine jx_ar (pc' := 15) (st' := [.int (i32 (0)), .int (i32 (28)), .ref 66]) rfl rfl rfl rfl ?_
    refine jx_ar (pc' := 16) (st' := [.int (i32 (0)), .int (i32 (0)), .int (i32 (28)), .ref 66]) rfl rfl rfl rfl ?_
    refine jx_ar (pc' := 17) (st' := [.int (i32 (0)), .int (i32 (0)), .int (i32 (0)), .int (i32 (28)), .ref 66]) rfl rfl rfl rfl ?_
    refine jx_ar (pc' := 18) (st' := [.int (i32 (0)), .int (i32 (0)), .int (i32 (0)), .int (i32 (0)), .int (i32 (28)), .ref 66]) rfl rfl rfl rfl ?_
    refine jx_vr (pc' := 21) (as := [.int (i32 (28)), .int (i32 (0)), .int (i32 (0)), .int (i32 (0)), .int (i32 (0))]) (st := []) rfl rfl rfl rfl ⟨rfl, rfl, Nat.le_of_ble_eq_true rfl⟩ rfl rfl (c_node_o (dd := d) (hd := by omega) (hW := hW532) (kind := 28) (a := 0) (b := 0) (c := 0) (e := 0) (nd := nd) (e_nd := show G528 31 = nd from ((hF533.1 31 rfl).trans (e_nd))) (ec := ec) (e_ec := show ecn A529 (G528 31) = ec from ec544)  (h_kind := ⟨(by decide), (by decide)⟩) (h_a := ⟨(by decide), (by decide)⟩) (h_b := ⟨(by decide), (by decide)⟩) (h_c := ⟨(by decide), (by decide)⟩) (h_e := ⟨(by decide), (by decide)⟩)  (p_0 := by omega) (p_1 := by omega) (p_2 := by omega)) (fun o V' hq => ?_)
    obtain ⟨G690, A691, nd2_692, ec2_693, rfl, rfl, hW694, hF695, hQ696, e697, e698, p699, p700, p701, -⟩ := hq
    have hF703 := Fr_tr hF540 hF695 (Fr_sub (by decide)) (Fr_sub (by decide))
    have hP704 := Pf_tr hP541 hQ696 (by omega)
    have hS705 := Fx_f hS542 hF695 (by decide)
    have hV706 := Fx_f hV543 hF695 (by decide)
    have bnd2_692 : (0 : Int) ≤ nd2_692 ∧ nd2_692 ≤ 6999 := e697 ▸ hW694.1 31
    refine .inr ⟨_, rfl, ?_⟩
    refine jx_ld (pc' := 22) (l' := jSto1 [(0, .ref 66), (1, .int (i32 (lv)))] 2 (.int (i32 (nd)))) (st' := []) rfl rfl ?_
    obtain ⟨L707, eL707⟩ : ∃ q, q = jSto1 [(0, .ref 66), (1, .int (i32 (lv)))] 2 (.int (i32 (nd))) := ⟨_, rfl⟩
    rw [← eL707]
    have gL707_0 : jGet L707 0 = some (.ref 66) := eL707 ▸ jg_ne (by decide) (rfl : jGet [(0, .ref 66), (1, .int (i32 (lv)))] 0 = some (.ref 66)) rfl
    have gL707_1 : jGet L707 1 = some (.int (i32 (lv))) := eL707 ▸ jg_ne (by decide) (rfl : jGet [(0, .ref 66), (1, .int (i32 (lv)))] 1 = some (.int (i32 (lv)))) rfl
    have gL707_2 : jGet L707 2 = some (.int (i32 (nd))) := eL707 ▸ jg_eq
    refine jx_ld (pc' := 23) (l' := L707) (st' := [.ref 66]) rfl (jl_aloadn gL707_0) ?_
    refine jx_vr (pc' := 26) (as := []) (st := []) rfl rfl rfl rfl ⟨rfl, rfl, Nat.le_of_ble_eq_true rfl⟩ rfl rfl (c_endLine (dd := d) (hd := by omega) (hW := hW694)  (ln := ln) (e_ln := show G690 9 = ln from ((hF695.1 9 rfl).trans ((hF533.1 9 rfl).trans (e_ln)))) (li := li) (e_li := show G690 3 = li from ((hF695.1 3 rfl).trans ((hF533.1 3 rfl).trans (e_li)))) (fk := fk) (e_fk := show G690 16 = fk from ((hF695.1 16 rfl).trans ((hF533.1 16 rfl).trans (e_fk)))) (tk0 := tk2_531) (e_tk0 := show G690 11 = tk2_531 from ((hF695.1 11 rfl).trans (e535)))    (p_0 := by omega)) (fun o V' hq => ?_)
    obtain ⟨G708, A709, ln2_710, fk2_711, rfl, rfl, hW712, hF713, e714, e715, q716⟩ := hq
    have hF717 := Fr_tr hF703 hF713 (Fr_sub (by decide)) (Fr_sub (by decide))
    have hP718 := Pf_f hP704 hF713 (by decide)
    have hS719 := Fx_f hS705 hF713 (by decide)
    have hV720 := Fx_f hV706 hF713 (by decide)
    have sf721 : ND A709 (nd) (28) (0) (0) (0) (0) (0) (0) := ND_ag (by omega) (Ag_fr hF713 (by decide)) p701
    have ec722 : ecn A709 (G708 31) = ec2_693 := (ecn_f (hF713.2 15 rfl) (hF713.1 31 rfl)).trans e698
    have bln2_710 : (0 : Int) ≤ ln2_710 ∧ ln2_710 ≤ 3000 := e714 ▸ hW712.1 9
    have bfk2_711 : (0 : Int) ≤ fk2_711 ∧ fk2_711 ≤ 6 := e715 ▸ hW712.1 16
    refine .inl ⟨rfl, ?_⟩
    rcases q716 with ⟨a723, a724, a725, a726, a727⟩ | ⟨a728, a729⟩
    · have _q : True := trivial
      have b730 : (0 : Int) ≤ A 3 (ln2_710).toNat ∧ A 3 (ln2_710).toNat ≤ 3000 := hW.2 3 _
      have lt731 : ln2_710 < li → le < A 3 (ln2_710).toNat := fun hh => LT_nx (LT_ext (((hF713.1 3 rfl).trans ((hF695.1 3 rfl).trans (hF533.1 3 rfl)))) (((hF713.2 3 rfl).trans ((hF695.2 3 rfl).trans (hF533.2 3 rfl)))) (((hF713.2 4 rfl).trans ((hF695.2 4 rfl).trans (hF533.2 4 rfl)))) i_LT) (show G708 3 = li from ((hF713.1 3 rfl).trans ((hF695.1 3 rfl).trans ((hF533.1 3 rfl).trans (e_li))))) (show A709 4 (ln).toNat = le from (congrFun ((hF713.2 4 rfl).trans ((hF695.2 4 rfl).trans (hF533.2 4 rfl))) _).trans (e_le)) (show A709 3 (ln2_710).toNat = A 3 (ln2_710).toNat from (congrFun ((hF713.2 3 rfl).trans ((hF695.2 3 rfl).trans (hF533.2 3 rfl))) _)) (show ln2_710 = ln + 1 by omega) (by omega) hh
      refine jx_ld (pc' := 27) (l' := L707) (st' := [.ref 66]) rfl (jl_aloadn gL707_0) ?_
      refine jx_ld (pc' := 28) (l' := L707) (st' := [.int (i32 (nd)), .ref 66]) rfl (jl_iloadn gL707_2) ?_
      refine jx_ld (pc' := 29) (l' := L707) (st' := [.int (i32 (lv)), .int (i32 (nd)), .ref 66]) rfl (jl_iloadn gL707_1) ?_
      refine jx_ar (pc' := 30) (st' := [.int (i32 (2)), .int (i32 (lv)), .int (i32 (nd)), .ref 66]) rfl rfl rfl rfl ?_
      refine jx_ar (pc' := 32) (st' := [.int (i32 (8)), .int (i32 (2)), .int (i32 (lv)), .int (i32 (nd)), .ref 66]) rfl rfl rfl rfl ?_
      refine jx_vr (pc' := 35) (as := [.int (i32 (nd)), .int (i32 (lv)), .int (i32 (2)), .int (i32 (8))]) (st := []) rfl rfl rfl rfl ⟨rfl, rfl, Nat.le_of_ble_eq_true rfl⟩ rfl rfl (c_readChildren_w (dd := d) (hP := hP) (zz := nd) (hd := by omega) (hW := hW712) (n := nd) (lv := lv) (least := 2) (mo := 8) (kk := 28) (aa := 0) (bb := 0) (cc := 0) (de := 0) (xx := 0) (ln := ln2_710) (e_ln := show G708 9 = ln2_710 from (e714)) (li := li) (e_li := show G708 3 = li from ((hF713.1 3 rfl).trans ((hF695.1 3 rfl).trans ((hF533.1 3 rfl).trans (e_li))))) (at0 := at2_530) (e_at0 := show G708 10 = at2_530 from ((hF713.1 10 rfl).trans ((hF695.1 10 rfl).trans (e534)))) (fk := fk2_711) (e_fk := show G708 16 = fk2_711 from (e715)) (nd := nd2_692) (e_nd := show G708 31 = nd2_692 from ((hF713.1 31 rfl).trans (e697))) (sy := sy) (e_sy := show G708 19 = sy from ((hF713.1 19 rfl).trans ((hF695.1 19 rfl).trans ((hF533.1 19 rfl).trans (e_sy))))) (na := na) (e_na := show G708 28 = na from ((hF713.1 28 rfl).trans ((hF695.1 28 rfl).trans ((hF533.1 28 rfl).trans (e_na))))) (vi := vi) (e_vi := show G708 29 = vi from ((hF713.1 29 rfl).trans ((hF695.1 29 rfl).trans ((hF533.1 29 rfl).trans (e_vi))))) (lf := A 3 (ln2_710).toNat) (e_lf := show A709 3 (ln2_710).toNat = A 3 (ln2_710).toNat from (congrFun ((hF713.2 3 rfl).trans ((hF695.2 3 rfl).trans (hF533.2 3 rfl))) _)) (ec := ec2_693) (e_ec := show ecn A709 (G708 31) = ec2_693 from ec722) (i_LT := (LT_ext (((hF713.1 3 rfl).trans ((hF695.1 3 rfl).trans (hF533.1 3 rfl)))) (((hF713.2 3 rfl).trans ((hF695.2 3 rfl).trans (hF533.2 3 rfl)))) (((hF713.2 4 rfl).trans ((hF695.2 4 rfl).trans (hF533.2 4 rfl)))) i_LT)) (i_SV := (SV_fx i_SV e_vi (show G708 29 = vi from ((hF713.1 29 rfl).trans ((hF695.1 29 rfl).trans ((hF533.1 29 rfl).trans (e_vi))))) (by omega) hV720)) (i_PQ := (PQ_fx i_PQ hS719 (by omega) (hF717.2 29 rfl) (hF717.2 30 rfl))) (hvb := hvb) (h_n := ⟨(Int.le_trans (by decide : (-2147483648 : Int) ≤ 0) b_nd.1), (Int.le_trans b_nd.2 (by decide : (6999 : Int) ≤ 2147483647))⟩) (h_lv := ⟨(Int.le_trans (by decide : (-2147483648 : Int) ≤ -2147483648) h_lv.1), (Int.le_trans h_lv.2 (by decide : (2147483647 : Int) ≤ 2147483647))⟩) (h_least := ⟨(by decide), (by decide)⟩) (h_mo := ⟨(by decide), (by decide)⟩)  (p_0 := by omega) (p_1 := by omega) (p_2 := by omega) (p_3 := by omega) (p_4 := by omega) (p_5 := by omega) (p_6 := by omega) (p_7 := by omega) (p_8 := by omega) (p_9 := by omega) (p_10 := by omega) (p_11 := by omega) (p_12 := by omega) (p_13 := by omega) (p_14 := by omega) (p_15 := sf721)) (fun o V' hq => ?_)
      obtain ⟨G732, A733, ln2_734, at2_735, fk2_736, nd2_737, sy2_738, na2_739, vi2_740, lf2_741, mm_742, f2_743, ec2_744, rfl, rfl, hW745, hF746, hQ747, hQ748, hQ749, hQ750, e751, e752, e753, e754, e755, e756, e757, e758, e759, e760, e761, p762, p763, p764, p765, p766, p767, p768, q769⟩ := hq
      have hF770 := Fr_tr hF717 hF746 (Fr_sub (by decide)) (Fr_sub (by decide))
      have hP771 := Pf_tr hP718 hQ747 (by omega)
      have hS772 := Fx_tr hS719 hQ749 (by omega)
      have hV773 := Fx_tr hV720 hQ750 (by omega)
      have bln2_734 : (0 : Int) ≤ ln2_734 ∧ ln2_734 ≤ 3000 := e751 ▸ hW745.1 9
      have bat2_735 : (0 : Int) ≤ at2_735 ∧ at2_735 ≤ 3002 := e752 ▸ hW745.1 10
      have bfk2_736 : (0 : Int) ≤ fk2_736 ∧ fk2_736 ≤ 6 := e753 ▸ hW745.1 16
      have bnd2_737 : (0 : Int) ≤ nd2_737 ∧ nd2_737 ≤ 6999 := e754 ▸ hW745.1 31
      have bsy2_738 : (0 : Int) ≤ sy2_738 ∧ sy2_738 ≤ 202 := e755 ▸ hW745.1 19
      have bna2_739 : (0 : Int) ≤ na2_739 ∧ na2_739 ≤ 200 := e756 ▸ hW745.1 28
      have bvi2_740 : (0 : Int) ≤ vi2_740 ∧ vi2_740 ≤ 202 := e757 ▸ hW745.1 29
      have blf2_741 : (0 : Int) ≤ lf2_741 ∧ lf2_741 ≤ 3000 := e758 ▸ hW745.2 3 _
      have bmm_742 : (-2147483648 : Int) ≤ mm_742 ∧ mm_742 ≤ 2147483647 := e759 ▸ hW745.2 18 _
      have bf2_743 : (-2147483648 : Int) ≤ f2_743 ∧ f2_743 ≤ 2147483647 := e760 ▸ hW745.2 21 _
      refine .inl ⟨rfl, ?_⟩
      rcases q769 with ⟨a774, a775⟩ | ⟨a776, a777, a778, a779, a780, a781, a782, a783⟩
      · have _q : True := trivial
        refine jx_ld (pc' := 36) (l' := L707) (st' := [.int (i32 (nd))]) rfl (jl_iloadn gL707_2) ?_
        refine jx_rt (v := some (.int (i32 (nd)))) rfl rfl rfl rfl rfl rfl ?_
        exact ⟨_, _, _, ln2_734, at2_735, fk2_736, nd2_737, sy2_738, na2_739, vi2_740, lf2_741, ec2_744, rfl, rfl, hW745, hF770, hP771, hS772, hV773, by omega, (e751), (e752), (e753), (e754), (e755), (e756), (e757), (e758), e761, by omega, by omega, by omega, by omega, by omega, by omega, by omega, by omega, by omega, by omega, by first | exact Or.inl (⟨by omega, by omega⟩)⟩
      · have _q : True := trivial
        refine jx_ld (pc' := 36) (l' := L707) (st' := [.int (i32 (nd))]) rfl (jl_iloadn gL707_2) ?_
        refine jx_rt (v := some (.int (i32 (nd)))) rfl rfl rfl rfl rfl rfl ?_
        exact ⟨_, _, _, ln2_734, at2_735, fk2_736, nd2_737, sy2_738, na2_739, vi2_740, lf2_741, ec2_744, rfl, rfl, hW745, hF770, hP771, hS772, hV773, by omega, (e751), (e752), (e753), (e754), (e755), (e756), (e757), (e758), e761, by omega, by omega, by omega, by omega, by omega, by omega, by omega, by omega, by omega, by omega, by first | exact Or.inr ((⟨by omega, by omega, by omega, by omega, by omega, by omega, by omega, (wS_par a781 (RL_eq a782 (by omega) (by omega) (by omega) (by omega) (by omega)) (by omega) (by omega) (by omega)), (NX_nd a781), by omega, by omega⟩))⟩
    · have _q : True := trivial
      refine jx_ld (pc' := 27) (l' := L707) (st' := [.ref 66]) rfl (jl_aloadn gL707_0) ?_
      refine jx_ld (pc' := 28) (l' := L707) (st' := [.int (i32 (nd)), .ref 66]) rfl (jl_iloadn gL707_2) ?_
      refine jx_ld (pc' := 29) (l' := L707) (st' := [.int (i32 (lv)), .int (i32 (nd)), .ref 66]) rfl (jl_iloadn gL707_1) ?_
      refine jx_ar (pc' := 30) (st' := [.int (i32 (2)), .int (i32 (lv)), .int (i32 (nd)), .ref 66]) rfl rfl rfl rfl ?_
      refine jx_ar (pc' := 32) (st' := [.int (i32 (8)), .int (i32 (2)), .int (i32 (lv)), .int (i32 (nd)), .ref 66]) rfl rfl rfl rfl ?_
      refine jx_vr (pc' := 35) (as := [.int (i32 (nd)), .int (i32 (lv)), .int (i32 (2)), .int (i32 (8))]) (st := []) rfl rfl rfl rfl ⟨rfl, rfl, Nat.le_of_ble_eq_true rfl⟩ rfl rfl (c_readChildren_f (dd := d) (zz := nd) (hd := by omega) (hW := hW712) (n := nd) (lv := lv) (least := 2) (mo := 8) (fk := fk2_711) (e_fk := show G708 16 = fk2_711 from (e715))  (h_n := ⟨(Int.le_trans (by decide : (-2147483648 : Int) ≤ 0) b_nd.1), (Int.le_trans b_nd.2 (by decide : (6999 : Int) ≤ 2147483647))⟩) (h_lv := ⟨(Int.le_trans (by decide : (-2147483648 : Int) ≤ -2147483648) h_lv.1), (Int.le_trans h_lv.2 (by decide : (2147483647 : Int) ≤ 2147483647))⟩) (h_least := ⟨(by decide), (by decide)⟩) (h_mo := ⟨(by decide), (by decide)⟩)  (p_0 := by omega) (p_1 := by omega) (p_2 := by omega) (p_3 := by omega)) (fun o V' hq => ?_)
      obtain ⟨G784, A785, fk2_786, rfl, rfl, hW787, hF788, hQ789, e790, p791, -⟩ := hq
      have hF793 := Fr_tr hF717 hF788 (Fr_sub (by decide)) (Fr_sub (by decide))
      have hP794 := Pf_tr hP718 hQ789 (by omega)
      have hS795 := Fx_f hS719 hF788 (by decide)
      have hV796 := Fx_f hV720 hF788 (by decide)
      have ec797 : ecn A785 (G784 31) = ec2_693 := (ecn_f (hF788.2 15 rfl) (hF788.1 31 rfl)).trans ec722
      have bfk2_786 : (0 : Int) ≤ fk2_786 ∧ fk2_786 ≤ 6 := e790 ▸ hW787.1 16
      refine .inl ⟨rfl, ?_⟩
      refine jx_ld (pc' := 36) (l' := L707) (st' := [.int (i32 (nd))]) rfl (jl_iloadn gL707_2) ?_
      refine jx_rt (v := some (.int (i32 (nd)))) rfl rfl rfl rfl rfl rfl ?_
      exact ⟨_, _, _, ln2_710, at2_530, fk2_786, nd2_692, sy, na, vi, A 3 (ln2_710).toNat, ec2_693, rfl, rfl, hW787, hF793, hP794, hS795, hV796, by omega, ((hF788.1 9 rfl).trans (e714)), ((hF788.1 10 rfl).trans ((hF713.1 10 rfl).trans ((hF695.1 10 rfl).trans (e534)))), (e790), ((hF788.1 31 rfl).trans ((hF713.1 31 rfl).trans (e697))), ((hF788.1 19 rfl).trans ((hF713.1 19 rfl).trans ((hF695.1 19 rfl).trans ((hF533.1 19 rfl).trans (e_sy))))), ((hF788.1 28 rfl).trans ((hF713.1 28 rfl).trans ((hF695.1 28 rfl).trans ((hF533.1 28 rfl).trans (e_na))))), ((hF788.1 29 rfl).trans ((hF713.1 29 rfl).trans ((hF695.1 29 rfl).trans ((hF533.1 29 rfl).trans (e_vi))))), (congrFun ((hF788.2 3 rfl).trans ((hF713.2 3 rfl).trans ((hF695.2 3 rfl).trans (hF533.2 3 rfl)))) _), ec797, by omega, by omega, by omega, by omega, by omega, by omega, by omega, by omega, by omega, by omega, by first | exact Or.inl (⟨by omega, by omega⟩)⟩
