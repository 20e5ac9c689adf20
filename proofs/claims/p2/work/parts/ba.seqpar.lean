set_option maxRecDepth 20000 in
set_option maxHeartbeats 4000000 in
theorem c_readSeq_w_at_126p {X : jX} {k : Nat} (hP : RPw X k) {d : Nat} {Vs : Nat → Prop} {sb pb : Int} (hvb : VB Vs sb) {c0 c1 : jC} {G : Nat → Int} {A : Nat → Nat → Int} {T : jH} {lv : Int} {ln li at0 fk nd sy na vi le op0 tk0 ec : Int} (hd : 8 * k + 82 ≤ d + 1) (hW : Wk G A) (e_ln : G 9 = ln) (e_li : G 3 = li) (e_at0 : G 10 = at0) (e_fk : G 16 = fk) (e_nd : G 31 = nd) (e_sy : G 19 = sy) (e_na : G 28 = na) (e_vi : G 29 = vi) (e_le : A 4 (ln).toNat = le) (e_op0 : G 15 = op0) (e_tk0 : G 11 = tk0) (e_ec : ecn A (G 31) = ec) (i_LT : LT G A) (i_SV : SV Vs sb G A) (i_PQ : PQ Vs sb pb G A) (h_lv : (-2147483648 : Int) ≤ lv ∧ lv ≤ 2147483647) (p_0 : 0 ≤ lv ∧ lv ≤ 15) (p_1 : 18 - lv ≤ ((k + 1 : Nat) : Int)) (p_2 : fk = 0) (p_3 : ln < li) (p_4 : at0 ≤ le) (p_5 : op0 = 0) (p_6 : nd ≤ 2 * at0 - tz tk0 + 30) (p_7 : sy ≤ na + 2) (p_8 : vi ≤ sy) (p_9 : sb = sy) (p_10 : 1 ≤ tk0) : ∀ (L : jL) (Gx : Nat → Int) (Ax : Nat → Nat → Int) (n at1 tk1 fk1 nd1 op1 sy1 na1 ec1 : Int), jGet L 0 = some (.ref 66) → jGet L 1 = some (.int (i32 (lv))) → jGet L 2 = some (.int (i32 n)) → Wk Gx Ax → Fr [9, 10, 11, 12, 13, 14, 15, 16, 17, 18, 19, 28, 29, 31] [6, 7, 8, 9, 10, 11, 12, 14, 15, 16, 17, 18, 19, 20, 21, 22, 23, 24, 28] G A Gx Ax → Pf nd A Ax → Fx sr (sy) A Ax → Fx [14] (vi) A Ax → Gx 10 = at1 → Gx 11 = tk1 → Gx 16 = fk1 → Gx 31 = nd1 → Gx 15 = op1 → Gx 19 = sy1 → Gx 28 = na1 → ecn Ax (Gx 31) = ec1 → Gx 9 = ln → Gx 29 = vi → ((-2147483648 : Int) ≤ n ∧ n ≤ 2147483647) → (1 ≤ fk1) → (at0 ≤ at1) → (at1 ≤ le) → (nd ≤ n ∧ n ≤ 6998 ∧ n < nd1) → (sy ≤ sy1) → (sy1 ≤ na1 + 2) → (0 ≤ op1 ∧ op1 ≤ 9) → (nd1 - nd ≤ 2 * at1 - 2 * at0 + 8) → wj X d jm297 (126, L, [], rV c0 c1 Gx Ax T) (fun o V' => ∃ (G' : Nat → Int) (A' : Nat → Nat → Int) (r : Int) (ln2 : Int) (at2 : Int) (fk2 : Int) (nd2 : Int) (sy2 : Int) (na2 : Int) (vi2 : Int) (lf2 : Int) (ec2 : Int), V' = rV c0 c1 G' A' T ∧ o = .inl (some (.int (i32 r))) ∧ Wk G' A' ∧ Fr [9, 10, 11, 12, 13, 14, 15, 16, 17, 18, 19, 28, 29, 31] [6, 7, 8, 9, 10, 11, 12, 14, 15, 16, 17, 18, 19, 20, 21, 22, 23, 24, 28] G A G' A' ∧ Pf nd A A' ∧ Fx sr (sy) A A' ∧ Fx [14] (vi) A A' ∧ ((-2147483648 : Int) ≤ r ∧ r ≤ 2147483647) ∧ G' 9 = ln2 ∧ G' 10 = at2 ∧ G' 16 = fk2 ∧ G' 31 = nd2 ∧ G' 19 = sy2 ∧ G' 28 = na2 ∧ G' 29 = vi2 ∧ A' 3 (ln2).toNat = lf2 ∧ ecn A' (G' 31) = ec2 ∧ (at0 ≤ at2) ∧ (nd ≤ nd2) ∧ (sy ≤ sy2) ∧ (sy2 ≤ na2 + 2) ∧ (vi ≤ vi2) ∧ (vi2 ≤ vi + 1) ∧ (0 ≤ r) ∧ (r ≤ 6999) ∧ (ln ≤ ln2) ∧ (ln2 ≤ li) ∧ (((1 ≤ fk2) ∧ (nd2 - nd ≤ 2 * at2 - (2 * at0 - tz tk0) + 14)) ∨ ((fk2 = 0) ∧ (vi2 = vi) ∧ (ln < ln2) ∧ (nd2 - nd ≤ 2 * at2 - (2 * at0 - tz tk0)) ∧ (at2 < lf2 ∨ li ≤ ln2) ∧ (nd ≤ r) ∧ (r < nd2) ∧ (wSt A' (sy2) pb (wP A' (sy2) pb (k)) (Vs) (r) (nd) (nd2) (sy) (sy2)) ∧ (NX A' (r)) ∧ (nd2 - nd + 5 * (ec2 - ec) ≤ 2 * at2 - (2 * at0 - tz tk0))))) := by
  have hF0 : Fr [9, 10, 11, 12, 13, 14, 15, 16, 17, 18, 19, 28, 29, 31] [6, 7, 8, 9, 10, 11, 12, 14, 15, 16, 17, 18, 19, 20, 21, 22, 23, 24, 28] G A G A := Fr_rf
  have hP0 : Pf nd A A := Pf_rf
  have hS0 : Fx sr (sy) A A := Fx_rf
  have hV0 : Fx [14] (vi) A A := Fx_rf
  have b_ln : (0 : Int) ≤ ln ∧ ln ≤ 3000 := e_ln ▸ hW.1 9
  have b_li : (0 : Int) ≤ li ∧ li ≤ 3000 := e_li ▸ hW.1 3
  have b_at0 : (0 : Int) ≤ at0 ∧ at0 ≤ 3002 := e_at0 ▸ hW.1 10
  have b_fk : (0 : Int) ≤ fk ∧ fk ≤ 6 := e_fk ▸ hW.1 16
  have b_nd : (0 : Int) ≤ nd ∧ nd ≤ 6999 := e_nd ▸ hW.1 31
  have b_sy : (0 : Int) ≤ sy ∧ sy ≤ 202 := e_sy ▸ hW.1 19
  have b_na : (0 : Int) ≤ na ∧ na ≤ 200 := e_na ▸ hW.1 28
  have b_vi : (0 : Int) ≤ vi ∧ vi ≤ 202 := e_vi ▸ hW.1 29
  have b_le : (0 : Int) ≤ le ∧ le ≤ 3000 := e_le ▸ hW.2 4 _
  have b_op0 : (-2147483648 : Int) ≤ op0 ∧ op0 ≤ 2147483647 := e_op0 ▸ hW.1 15
  have z_tk0 := tz_f tk0
  have b_tk0 : (0 : Int) ≤ tk0 ∧ tk0 ≤ 5 := e_tk0 ▸ hW.1 11
  intro L Gx Ax n at1 tk1 fk1 nd1 op1 sy1 na1 ec1 gL_0 gL_1 gL_2 hWx hFx hPx hSx hVx ex_at1 ex_tk1 ex_fk1 ex_nd1 ex_op1 ex_sy1 ex_na1 ex_ec1 fx_9 fx_29 rx_n iv_0 iv_1 iv_2 iv_3 iv_4 iv_5 iv_6 iv_7
  have b_at1 : (0 : Int) ≤ at1 ∧ at1 ≤ 3002 := ex_at1 ▸ hWx.1 10
  have z_tk1 := tz_f tk1
  have b_tk1 : (0 : Int) ≤ tk1 ∧ tk1 ≤ 5 := ex_tk1 ▸ hWx.1 11
  have b_fk1 : (0 : Int) ≤ fk1 ∧ fk1 ≤ 6 := ex_fk1 ▸ hWx.1 16
  have b_nd1 : (0 : Int) ≤ nd1 ∧ nd1 ≤ 6999 := ex_nd1 ▸ hWx.1 31
  have b_op1 : (-2147483648 : Int) ≤ op1 ∧ op1 ≤ 2147483647 := ex_op1 ▸ hWx.1 15
  have b_sy1 : (0 : Int) ≤ sy1 ∧ sy1 ≤ 202 := ex_sy1 ▸ hWx.1 19
  have b_na1 : (0 : Int) ≤ na1 ∧ na1 ≤ 200 := ex_na1 ▸ hWx.1 28
  refine jx_ld (pc' := 127) (l' := L) (st' := [.ref 66]) rfl (jl_aloadn gL_0) ?_
  refine jx_vr (pc' := 130) (as := []) (st := []) rfl rfl rfl rfl ⟨rfl, rfl, Nat.le_of_ble_eq_true rfl⟩ rfl rfl (c_endLine (dd := d) (hd := by omega) (hW := hWx)  (ln := ln) (e_ln := show Gx 9 = ln from (fx_9)) (li := li) (e_li := show Gx 3 = li from ((hFx.1 3 rfl).trans (e_li))) (fk := fk1) (e_fk := show Gx 16 = fk1 from (ex_fk1)) (tk0 := tk1) (e_tk0 := show Gx 11 = tk1 from (ex_tk1))    (p_0 := by omega)) (fun o V' hq => ?_)
  obtain ⟨G1, A2, ln2_3, fk2_4, rfl, rfl, hW5, hF6, e7, e8, q9⟩ := hq
  have hF10 := Fr_tr hFx hF6 (Fr_sub (by decide)) (Fr_sub (by decide))
  have hP11 := Pf_f hPx hF6 (by decide)
  have hS12 := Fx_f hSx hF6 (by decide)
  have hV13 := Fx_f hVx hF6 (by decide)
  have ec14 : ecn A2 (G1 31) = ec1 := (ecn_f (hF6.2 15 rfl) (hF6.1 31 rfl)).trans ex_ec1
  have bln2_3 : (0 : Int) ≤ ln2_3 ∧ ln2_3 ≤ 3000 := e7 ▸ hW5.1 9
  have bfk2_4 : (0 : Int) ≤ fk2_4 ∧ fk2_4 ≤ 6 := e8 ▸ hW5.1 16
  refine .inl ⟨rfl, ?_⟩
  rcases q9 with ⟨a15, a16, a17, a18, a19⟩ | ⟨a20, a21⟩
  · have _q : True := trivial
    exfalso
    omega
  · have _q : True := trivial
    refine jx_ld (pc' := 131) (l' := L) (st' := [.ref 66]) rfl (jl_aloadn gL_0) ?_
    refine jx_ld (pc' := 132) (l' := L) (st' := [.int (i32 (n)), .ref 66]) rfl (jl_iloadn gL_2) ?_
    refine jx_ld (pc' := 133) (l' := L) (st' := [.int (i32 (lv)), .int (i32 (n)), .ref 66]) rfl (jl_iloadn gL_1) ?_
    refine jx_vr (pc' := 136) (as := [.int (i32 (n)), .int (i32 (lv))]) (st := []) rfl rfl rfl rfl ⟨rfl, rfl, Nat.le_of_ble_eq_true rfl⟩ rfl rfl (c_readIndexed_f (dd := d) (hd := by omega) (hW := hW5) (n := n) (lv := lv) (fk := fk2_4) (e_fk := show G1 16 = fk2_4 from (e8))  (h_n := ⟨(Int.le_trans (by decide : (-2147483648 : Int) ≤ -2147483648) rx_n.1), (Int.le_trans rx_n.2 (by decide : (2147483647 : Int) ≤ 2147483647))⟩) (h_lv := ⟨(Int.le_trans (by decide : (-2147483648 : Int) ≤ -2147483648) h_lv.1), (Int.le_trans h_lv.2 (by decide : (2147483647 : Int) ≤ 2147483647))⟩)  (p_0 := by omega)) (fun o V' hq => ?_)
    obtain ⟨r22, rfl, rfl, b23, p24, -⟩ := hq
    refine .inr ⟨_, rfl, ?_⟩
    refine jx_rt (v := some (.int (i32 (r22)))) rfl rfl rfl rfl rfl rfl ?_
    exact ⟨_, _, _, ln2_3, at1, fk2_4, nd1, sy1, na1, vi, A 3 (ln2_3).toNat, ec1, rfl, rfl, hW5, hF10, hP11, hS12, hV13, by omega, (e7), ((hF6.1 10 rfl).trans (ex_at1)), (e8), ((hF6.1 31 rfl).trans (ex_nd1)), ((hF6.1 19 rfl).trans (ex_sy1)), ((hF6.1 28 rfl).trans (ex_na1)), ((hF6.1 29 rfl).trans (fx_29)), (congrFun ((hF6.2 3 rfl).trans (hFx.2 3 rfl)) _), ec14, by omega, by omega, by omega, by omega, by omega, by omega, by omega, by omega, by omega, by omega, by first | exact Or.inl (⟨by omega, by omega⟩)⟩
set_option maxRecDepth 20000 in
set_option maxHeartbeats 4000000 in
theorem c_readSeq_w_at_116p {X : jX} {k : Nat} (hP : RPw X k) {d : Nat} {Vs : Nat → Prop} {sb pb : Int} (hvb : VB Vs sb) {c0 c1 : jC} {G : Nat → Int} {A : Nat → Nat → Int} {T : jH} {lv : Int} {ln li at0 fk nd sy na vi le op0 tk0 ec : Int} (hd : 8 * k + 82 ≤ d + 1) (hW : Wk G A) (e_ln : G 9 = ln) (e_li : G 3 = li) (e_at0 : G 10 = at0) (e_fk : G 16 = fk) (e_nd : G 31 = nd) (e_sy : G 19 = sy) (e_na : G 28 = na) (e_vi : G 29 = vi) (e_le : A 4 (ln).toNat = le) (e_op0 : G 15 = op0) (e_tk0 : G 11 = tk0) (e_ec : ecn A (G 31) = ec) (i_LT : LT G A) (i_SV : SV Vs sb G A) (i_PQ : PQ Vs sb pb G A) (h_lv : (-2147483648 : Int) ≤ lv ∧ lv ≤ 2147483647) (p_0 : 0 ≤ lv ∧ lv ≤ 15) (p_1 : 18 - lv ≤ ((k + 1 : Nat) : Int)) (p_2 : fk = 0) (p_3 : ln < li) (p_4 : at0 ≤ le) (p_5 : op0 = 0) (p_6 : nd ≤ 2 * at0 - tz tk0 + 30) (p_7 : sy ≤ na + 2) (p_8 : vi ≤ sy) (p_9 : sb = sy) (p_10 : 1 ≤ tk0) : ∀ (L : jL) (Gx : Nat → Int) (Ax : Nat → Nat → Int) (n at1 tk1 fk1 nd1 op1 sy1 na1 ec1 : Int), jGet L 0 = some (.ref 66) → jGet L 1 = some (.int (i32 (lv))) → jGet L 2 = some (.int (i32 n)) → Wk Gx Ax → Fr [9, 10, 11, 12, 13, 14, 15, 16, 17, 18, 19, 28, 29, 31] [6, 7, 8, 9, 10, 11, 12, 14, 15, 16, 17, 18, 19, 20, 21, 22, 23, 24, 28] G A Gx Ax → Pf nd A Ax → Fx sr (sy) A Ax → Fx [14] (vi) A Ax → Gx 10 = at1 → Gx 11 = tk1 → Gx 16 = fk1 → Gx 31 = nd1 → Gx 15 = op1 → Gx 19 = sy1 → Gx 28 = na1 → ecn Ax (Gx 31) = ec1 → Gx 9 = ln → Gx 29 = vi → ((-2147483648 : Int) ≤ n ∧ n ≤ 2147483647) → (1 ≤ fk1) → (at0 ≤ at1) → (at1 ≤ le) → (nd ≤ n ∧ n ≤ 6998 ∧ n < nd1) → (sy ≤ sy1) → (sy1 ≤ na1 + 2) → (0 ≤ op1 ∧ op1 ≤ 9) → (nd1 - nd ≤ 2 * at1 - 2 * at0 + 8) → wj X d jm297 (116, L, [], rV c0 c1 Gx Ax T) (fun o V' => ∃ (G' : Nat → Int) (A' : Nat → Nat → Int) (r : Int) (ln2 : Int) (at2 : Int) (fk2 : Int) (nd2 : Int) (sy2 : Int) (na2 : Int) (vi2 : Int) (lf2 : Int) (ec2 : Int), V' = rV c0 c1 G' A' T ∧ o = .inl (some (.int (i32 r))) ∧ Wk G' A' ∧ Fr [9, 10, 11, 12, 13, 14, 15, 16, 17, 18, 19, 28, 29, 31] [6, 7, 8, 9, 10, 11, 12, 14, 15, 16, 17, 18, 19, 20, 21, 22, 23, 24, 28] G A G' A' ∧ Pf nd A A' ∧ Fx sr (sy) A A' ∧ Fx [14] (vi) A A' ∧ ((-2147483648 : Int) ≤ r ∧ r ≤ 2147483647) ∧ G' 9 = ln2 ∧ G' 10 = at2 ∧ G' 16 = fk2 ∧ G' 31 = nd2 ∧ G' 19 = sy2 ∧ G' 28 = na2 ∧ G' 29 = vi2 ∧ A' 3 (ln2).toNat = lf2 ∧ ecn A' (G' 31) = ec2 ∧ (at0 ≤ at2) ∧ (nd ≤ nd2) ∧ (sy ≤ sy2) ∧ (sy2 ≤ na2 + 2) ∧ (vi ≤ vi2) ∧ (vi2 ≤ vi + 1) ∧ (0 ≤ r) ∧ (r ≤ 6999) ∧ (ln ≤ ln2) ∧ (ln2 ≤ li) ∧ (((1 ≤ fk2) ∧ (nd2 - nd ≤ 2 * at2 - (2 * at0 - tz tk0) + 14)) ∨ ((fk2 = 0) ∧ (vi2 = vi) ∧ (ln < ln2) ∧ (nd2 - nd ≤ 2 * at2 - (2 * at0 - tz tk0)) ∧ (at2 < lf2 ∨ li ≤ ln2) ∧ (nd ≤ r) ∧ (r < nd2) ∧ (wSt A' (sy2) pb (wP A' (sy2) pb (k)) (Vs) (r) (nd) (nd2) (sy) (sy2)) ∧ (NX A' (r)) ∧ (nd2 - nd + 5 * (ec2 - ec) ≤ 2 * at2 - (2 * at0 - tz tk0))))) := by
  have hF0 : Fr [9, 10, 11, 12, 13, 14, 15, 16, 17, 18, 19, 28, 29, 31] [6, 7, 8, 9, 10, 11, 12, 14, 15, 16, 17, 18, 19, 20, 21, 22, 23, 24, 28] G A G A := Fr_rf
  have hP0 : Pf nd A A := Pf_rf
  have hS0 : Fx sr (sy) A A := Fx_rf
  have hV0 : Fx [14] (vi) A A := Fx_rf
  have b_ln : (0 : Int) ≤ ln ∧ ln ≤ 3000 := e_ln ▸ hW.1 9
  have b_li : (0 : Int) ≤ li ∧ li ≤ 3000 := e_li ▸ hW.1 3
  have b_at0 : (0 : Int) ≤ at0 ∧ at0 ≤ 3002 := e_at0 ▸ hW.1 10
  have b_fk : (0 : Int) ≤ fk ∧ fk ≤ 6 := e_fk ▸ hW.1 16
  have b_nd : (0 : Int) ≤ nd ∧ nd ≤ 6999 := e_nd ▸ hW.1 31
  have b_sy : (0 : Int) ≤ sy ∧ sy ≤ 202 := e_sy ▸ hW.1 19
  have b_na : (0 : Int) ≤ na ∧ na ≤ 200 := e_na ▸ hW.1 28
  have b_vi : (0 : Int) ≤ vi ∧ vi ≤ 202 := e_vi ▸ hW.1 29
  have b_le : (0 : Int) ≤ le ∧ le ≤ 3000 := e_le ▸ hW.2 4 _
  have b_op0 : (-2147483648 : Int) ≤ op0 ∧ op0 ≤ 2147483647 := e_op0 ▸ hW.1 15
  have z_tk0 := tz_f tk0
  have b_tk0 : (0 : Int) ≤ tk0 ∧ tk0 ≤ 5 := e_tk0 ▸ hW.1 11
  intro L Gx Ax n at1 tk1 fk1 nd1 op1 sy1 na1 ec1 gL_0 gL_1 gL_2 hWx hFx hPx hSx hVx ex_at1 ex_tk1 ex_fk1 ex_nd1 ex_op1 ex_sy1 ex_na1 ex_ec1 fx_9 fx_29 rx_n iv_0 iv_1 iv_2 iv_3 iv_4 iv_5 iv_6 iv_7
  have b_at1 : (0 : Int) ≤ at1 ∧ at1 ≤ 3002 := ex_at1 ▸ hWx.1 10
  have z_tk1 := tz_f tk1
  have b_tk1 : (0 : Int) ≤ tk1 ∧ tk1 ≤ 5 := ex_tk1 ▸ hWx.1 11
  have b_fk1 : (0 : Int) ≤ fk1 ∧ fk1 ≤ 6 := ex_fk1 ▸ hWx.1 16
  have b_nd1 : (0 : Int) ≤ nd1 ∧ nd1 ≤ 6999 := ex_nd1 ▸ hWx.1 31
  have b_op1 : (-2147483648 : Int) ≤ op1 ∧ op1 ≤ 2147483647 := ex_op1 ▸ hWx.1 15
  have b_sy1 : (0 : Int) ≤ sy1 ∧ sy1 ≤ 202 := ex_sy1 ▸ hWx.1 19
  have b_na1 : (0 : Int) ≤ na1 ∧ na1 ≤ 200 := ex_na1 ▸ hWx.1 28
  refine jx_ld (pc' := 117) (l' := L) (st' := [.ref 66]) rfl (jl_aloadn gL_0) ?_
  refine jr_get (pc' := 120) (i := 37) (v := .ref 87) rfl rfl (by decide) rfl rfl ?_
  refine jx_ld (pc' := 121) (l' := L) (st' := [.int (i32 (n)), .ref 87]) rfl (jl_iloadn gL_2) ?_
  refine jx_ld (pc' := 122) (l' := L) (st' := [.ref 66, .int (i32 (n)), .ref 87]) rfl (jl_aloadn gL_0) ?_
  refine jx_vr (pc' := 125) (as := []) (st := [.int (i32 (n)), .ref 87]) rfl rfl rfl rfl ⟨rfl, rfl, Nat.le_of_ble_eq_true rfl⟩ rfl rfl (REw_all X 9 (dd := d) (hd := by omega) (hW := hWx)  (ln := ln) (e_ln := show Gx 9 = ln from (fx_9)) (le := le) (e_le := show Ax 4 (ln).toNat = le from (congrFun (hFx.2 4 rfl) _).trans (e_le)) (at0 := at1) (e_at0 := show Gx 10 = at1 from (ex_at1)) (fk := fk1) (e_fk := show Gx 16 = fk1 from (ex_fk1)) (op0 := op1) (e_op0 := show Gx 15 = op1 from (ex_op1)) (nd := nd1) (e_nd := show Gx 31 = nd1 from (ex_nd1)) (tk0 := tk1) (e_tk0 := show Gx 11 = tk1 from (ex_tk1)) (ec := ec1) (e_ec := show ecn Ax (Gx 31) = ec1 from ex_ec1) (i_SV := (SV_fx i_SV e_vi (show Gx 29 = vi from (fx_29)) (by omega) hVx))   (p_0 := by omega) (p_1 := by omega) (p_2 := by omega) (p_3 := by omega) (p_4 := by omega) (p_5 := by omega)) (fun o V' hq => ?_)
  obtain ⟨G26, A27, r28, at2_29, fk2_30, op2_31, nd2_32, tk2_33, ec2_34, rfl, rfl, hW35, hF36, hQ37, b38, e39, e40, e41, e42, e43, e44, p45, p46, p47, p48, p49, p50, q51⟩ := hq
  have hF52 := Fr_tr hFx hF36 (Fr_sub (by decide)) (Fr_sub (by decide))
  have hP53 := Pf_tr hPx hQ37 (by omega)
  have hS54 := Fx_f hSx hF36 (by decide)
  have hV55 := Fx_f hVx hF36 (by decide)
  have bat2_29 : (0 : Int) ≤ at2_29 ∧ at2_29 ≤ 3002 := e39 ▸ hW35.1 10
  have bfk2_30 : (0 : Int) ≤ fk2_30 ∧ fk2_30 ≤ 6 := e40 ▸ hW35.1 16
  have bop2_31 : (-2147483648 : Int) ≤ op2_31 ∧ op2_31 ≤ 2147483647 := e41 ▸ hW35.1 15
  have bnd2_32 : (0 : Int) ≤ nd2_32 ∧ nd2_32 ≤ 6999 := e42 ▸ hW35.1 31
  have ztk2_33 := tz_b tk2_33
  have btk2_33 : (0 : Int) ≤ tk2_33 ∧ tk2_33 ≤ 5 := e43 ▸ hW35.1 11
  refine .inr ⟨_, rfl, ?_⟩
  rcases q51 with ⟨a56, a57, a58, a59, a60, a61⟩ | ⟨a62, a63, a64⟩ | ⟨a65, a66, a67, a68, a69, a70⟩
  · have _q : True := trivial
    refine jr_st (pc' := 126) (i := 20) (m := 7000) (z := n) (y := r28) rfl (by decide) rfl (by decide) (by omega) (by omega) rfl ?_
    have hW72 : Wk G26 (uA A27 20 (n).toNat (r28)) := Wk_a hW35 (show (-2147483648 : Int) ≤ r28 by omega) (show r28 ≤ (2147483647 : Int) by omega)
    have hF73 := Fr_a (z := r28) (k := 20) (n := (n).toNat) hF52 (by decide)
    obtain ⟨A71, eA71⟩ : ∃ q, q = uA A27 20 (n).toNat (r28) := ⟨_, rfl⟩
    rw [← eA71]
    rw [← eA71] at hW72 hF73
    have q74 : A71 20 (n).toNat = r28 := by rw [eA71]; exact uA_eq
    have hP75 : Pf nd A A71 := eA71 ▸ Pf_a hP53 (z := n) (by omega) (by omega)
    have hS76 : Fx sr (sy) A A71 := eA71 ▸ Fx_n hS54 rfl
    have hV77 : Fx [14] (vi) A A71 := eA71 ▸ Fx_n hV55 rfl
    have ec78 : ecn A71 (G26 31) = ec2_34 := (ecn_e ((congrFun eA71 15).trans (uA_ne (by decide)))).trans e44
    have z79 := tz_f (tk2_33)
    exact c_readSeq_w_at_126p (X := X) (k := k) (hP := hP) (d := d) (Vs := Vs) (sb := sb) (pb := pb) (hvb := hvb) (c0 := c0) (c1 := c1) (G := G) (A := A) (T := T) (lv := lv) (ln := ln) (li := li) (at0 := at0) (fk := fk) (nd := nd) (sy := sy) (na := na) (vi := vi) (le := le) (op0 := op0) (tk0 := tk0) (ec := ec) (hd := hd) (hW := hW) (e_ln := e_ln) (e_li := e_li) (e_at0 := e_at0) (e_fk := e_fk) (e_nd := e_nd) (e_sy := e_sy) (e_na := e_na) (e_vi := e_vi) (e_le := e_le) (e_op0 := e_op0) (e_tk0 := e_tk0) (e_ec := e_ec) (i_LT := i_LT) (i_SV := i_SV) (i_PQ := i_PQ) (h_lv := h_lv) (p_0 := p_0) (p_1 := p_1) (p_2 := p_2) (p_3 := p_3) (p_4 := p_4) (p_5 := p_5) (p_6 := p_6) (p_7 := p_7) (p_8 := p_8) (p_9 := p_9) (p_10 := p_10) L G26 A71 (n) (at2_29) (tk2_33) (fk2_30) (nd2_32) (op2_31) (sy1) (na1) (ec2_34) gL_0 gL_1 gL_2 hW72 hF73 hP75 hS76 hV77 ((e39)) ((e43)) ((e40)) ((e42)) ((e41)) (((hF36.1 19 rfl).trans (ex_sy1))) (((hF36.1 28 rfl).trans (ex_na1))) (ec78) (((hF36.1 9 rfl).trans (fx_9))) (((hF36.1 29 rfl).trans (fx_29))) (by omega) (by omega) (by omega) (by omega) (by omega) (by omega) (by omega) (by omega) (by omega)
  · have _q : True := trivial
    exfalso
    omega
  · have _q : True := trivial
    exfalso
    omega
set_option maxRecDepth 20000 in
set_option maxHeartbeats 4000000 in
theorem c_readSeq_w_at_106p {X : jX} {k : Nat} (hP : RPw X k) {d : Nat} {Vs : Nat → Prop} {sb pb : Int} (hvb : VB Vs sb) {c0 c1 : jC} {G : Nat → Int} {A : Nat → Nat → Int} {T : jH} {lv : Int} {ln li at0 fk nd sy na vi le op0 tk0 ec : Int} (hd : 8 * k + 82 ≤ d + 1) (hW : Wk G A) (e_ln : G 9 = ln) (e_li : G 3 = li) (e_at0 : G 10 = at0) (e_fk : G 16 = fk) (e_nd : G 31 = nd) (e_sy : G 19 = sy) (e_na : G 28 = na) (e_vi : G 29 = vi) (e_le : A 4 (ln).toNat = le) (e_op0 : G 15 = op0) (e_tk0 : G 11 = tk0) (e_ec : ecn A (G 31) = ec) (i_LT : LT G A) (i_SV : SV Vs sb G A) (i_PQ : PQ Vs sb pb G A) (h_lv : (-2147483648 : Int) ≤ lv ∧ lv ≤ 2147483647) (p_0 : 0 ≤ lv ∧ lv ≤ 15) (p_1 : 18 - lv ≤ ((k + 1 : Nat) : Int)) (p_2 : fk = 0) (p_3 : ln < li) (p_4 : at0 ≤ le) (p_5 : op0 = 0) (p_6 : nd ≤ 2 * at0 - tz tk0 + 30) (p_7 : sy ≤ na + 2) (p_8 : vi ≤ sy) (p_9 : sb = sy) (p_10 : 1 ≤ tk0) : ∀ (L : jL) (Gx : Nat → Int) (Ax : Nat → Nat → Int) (n at1 tk1 fk1 nd1 op1 sy1 na1 ec1 : Int), jGet L 0 = some (.ref 66) → jGet L 1 = some (.int (i32 (lv))) → jGet L 2 = some (.int (i32 n)) → Wk Gx Ax → Fr [9, 10, 11, 12, 13, 14, 15, 16, 17, 18, 19, 28, 29, 31] [6, 7, 8, 9, 10, 11, 12, 14, 15, 16, 17, 18, 19, 20, 21, 22, 23, 24, 28] G A Gx Ax → Pf nd A Ax → Fx sr (sy) A Ax → Fx [14] (vi) A Ax → Gx 10 = at1 → Gx 11 = tk1 → Gx 16 = fk1 → Gx 31 = nd1 → Gx 15 = op1 → Gx 19 = sy1 → Gx 28 = na1 → ecn Ax (Gx 31) = ec1 → Gx 9 = ln → Gx 29 = vi → ((-2147483648 : Int) ≤ n ∧ n ≤ 2147483647) → (1 ≤ fk1) → (at0 ≤ at1) → (at1 ≤ le) → (nd ≤ n ∧ n ≤ 6998 ∧ n < nd1) → (sy ≤ sy1) → (sy1 ≤ na1 + 2) → (0 ≤ op1 ∧ op1 ≤ 9) → (nd1 - nd ≤ 2 * at1 - 2 * at0 + 8) → wj X d jm297 (106, L, [], rV c0 c1 Gx Ax T) (fun o V' => ∃ (G' : Nat → Int) (A' : Nat → Nat → Int) (r : Int) (ln2 : Int) (at2 : Int) (fk2 : Int) (nd2 : Int) (sy2 : Int) (na2 : Int) (vi2 : Int) (lf2 : Int) (ec2 : Int), V' = rV c0 c1 G' A' T ∧ o = .inl (some (.int (i32 r))) ∧ Wk G' A' ∧ Fr [9, 10, 11, 12, 13, 14, 15, 16, 17, 18, 19, 28, 29, 31] [6, 7, 8, 9, 10, 11, 12, 14, 15, 16, 17, 18, 19, 20, 21, 22, 23, 24, 28] G A G' A' ∧ Pf nd A A' ∧ Fx sr (sy) A A' ∧ Fx [14] (vi) A A' ∧ ((-2147483648 : Int) ≤ r ∧ r ≤ 2147483647) ∧ G' 9 = ln2 ∧ G' 10 = at2 ∧ G' 16 = fk2 ∧ G' 31 = nd2 ∧ G' 19 = sy2 ∧ G' 28 = na2 ∧ G' 29 = vi2 ∧ A' 3 (ln2).toNat = lf2 ∧ ecn A' (G' 31) = ec2 ∧ (at0 ≤ at2) ∧ (nd ≤ nd2) ∧ (sy ≤ sy2) ∧ (sy2 ≤ na2 + 2) ∧ (vi ≤ vi2) ∧ (vi2 ≤ vi + 1) ∧ (0 ≤ r) ∧ (r ≤ 6999) ∧ (ln ≤ ln2) ∧ (ln2 ≤ li) ∧ (((1 ≤ fk2) ∧ (nd2 - nd ≤ 2 * at2 - (2 * at0 - tz tk0) + 14)) ∨ ((fk2 = 0) ∧ (vi2 = vi) ∧ (ln < ln2) ∧ (nd2 - nd ≤ 2 * at2 - (2 * at0 - tz tk0)) ∧ (at2 < lf2 ∨ li ≤ ln2) ∧ (nd ≤ r) ∧ (r < nd2) ∧ (wSt A' (sy2) pb (wP A' (sy2) pb (k)) (Vs) (r) (nd) (nd2) (sy) (sy2)) ∧ (NX A' (r)) ∧ (nd2 - nd + 5 * (ec2 - ec) ≤ 2 * at2 - (2 * at0 - tz tk0))))) := by
  have hF0 : Fr [9, 10, 11, 12, 13, 14, 15, 16, 17, 18, 19, 28, 29, 31] [6, 7, 8, 9, 10, 11, 12, 14, 15, 16, 17, 18, 19, 20, 21, 22, 23, 24, 28] G A G A := Fr_rf
  have hP0 : Pf nd A A := Pf_rf
  have hS0 : Fx sr (sy) A A := Fx_rf
  have hV0 : Fx [14] (vi) A A := Fx_rf
  have b_ln : (0 : Int) ≤ ln ∧ ln ≤ 3000 := e_ln ▸ hW.1 9
  have b_li : (0 : Int) ≤ li ∧ li ≤ 3000 := e_li ▸ hW.1 3
  have b_at0 : (0 : Int) ≤ at0 ∧ at0 ≤ 3002 := e_at0 ▸ hW.1 10
  have b_fk : (0 : Int) ≤ fk ∧ fk ≤ 6 := e_fk ▸ hW.1 16
  have b_nd : (0 : Int) ≤ nd ∧ nd ≤ 6999 := e_nd ▸ hW.1 31
  have b_sy : (0 : Int) ≤ sy ∧ sy ≤ 202 := e_sy ▸ hW.1 19
  have b_na : (0 : Int) ≤ na ∧ na ≤ 200 := e_na ▸ hW.1 28
  have b_vi : (0 : Int) ≤ vi ∧ vi ≤ 202 := e_vi ▸ hW.1 29
  have b_le : (0 : Int) ≤ le ∧ le ≤ 3000 := e_le ▸ hW.2 4 _
  have b_op0 : (-2147483648 : Int) ≤ op0 ∧ op0 ≤ 2147483647 := e_op0 ▸ hW.1 15
  have z_tk0 := tz_f tk0
  have b_tk0 : (0 : Int) ≤ tk0 ∧ tk0 ≤ 5 := e_tk0 ▸ hW.1 11
  intro L Gx Ax n at1 tk1 fk1 nd1 op1 sy1 na1 ec1 gL_0 gL_1 gL_2 hWx hFx hPx hSx hVx ex_at1 ex_tk1 ex_fk1 ex_nd1 ex_op1 ex_sy1 ex_na1 ex_ec1 fx_9 fx_29 rx_n iv_0 iv_1 iv_2 iv_3 iv_4 iv_5 iv_6 iv_7
  have b_at1 : (0 : Int) ≤ at1 ∧ at1 ≤ 3002 := ex_at1 ▸ hWx.1 10
  have z_tk1 := tz_f tk1
  have b_tk1 : (0 : Int) ≤ tk1 ∧ tk1 ≤ 5 := ex_tk1 ▸ hWx.1 11
  have b_fk1 : (0 : Int) ≤ fk1 ∧ fk1 ≤ 6 := ex_fk1 ▸ hWx.1 16
  have b_nd1 : (0 : Int) ≤ nd1 ∧ nd1 ≤ 6999 := ex_nd1 ▸ hWx.1 31
  have b_op1 : (-2147483648 : Int) ≤ op1 ∧ op1 ≤ 2147483647 := ex_op1 ▸ hWx.1 15
  have b_sy1 : (0 : Int) ≤ sy1 ∧ sy1 ≤ 202 := ex_sy1 ▸ hWx.1 19
  have b_na1 : (0 : Int) ≤ na1 ∧ na1 ≤ 200 := ex_na1 ▸ hWx.1 28
  refine jx_ld (pc' := 107) (l' := L) (st' := [.ref 66]) rfl (jl_aloadn gL_0) ?_
  refine jx_ld (pc' := 108) (l' := L) (st' := [.ref 66, .ref 66]) rfl (jl_aloadn gL_0) ?_
  refine jx_ar (pc' := 110) (st' := [.int (i32 (13)), .ref 66, .ref 66]) rfl rfl rfl rfl ?_
  have b80 : (-2147483648 : Int) ≤ Gx 13 ∧ Gx 13 ≤ 2147483647 := hWx.1 13
  refine jx_vr (pc' := 113) (as := [.int (i32 (13))]) (st := [.ref 66]) rfl rfl rfl rfl ⟨rfl, rfl, Nat.le_of_ble_eq_true rfl⟩ rfl rfl (c_isKey (dd := d) (hd := by omega) (hW := hWx) (k := 13) (tk := tk1) (e_tk := show Gx 11 = tk1 from (ex_tk1)) (tn := Gx 13) (e_tn := show Gx 13 = Gx 13 from rfl)  (h_k := ⟨(by decide), (by decide)⟩)  ) (fun o V' hq => ?_)
  obtain ⟨r81, rfl, rfl, b82, q83⟩ := hq
  refine .inr ⟨_, rfl, ?_⟩
  rcases q83 with ⟨rfl, a84, a85, a86⟩ | rfl
  · have _q : True := trivial
    refine jx_vr (pc' := 116) (as := [.int (i32 (1))]) (st := []) rfl rfl rfl rfl ⟨rfl, rfl, Nat.le_of_ble_eq_true rfl⟩ rfl rfl (c_need (dd := d) (hd := by omega) (hW := hWx) (g := 1) (ln := ln) (e_ln := show Gx 9 = ln from (fx_9)) (le := le) (e_le := show Ax 4 (ln).toNat = le from (congrFun (hFx.2 4 rfl) _).trans (e_le)) (at0 := at1) (e_at0 := show Gx 10 = at1 from (ex_at1)) (fk := fk1) (e_fk := show Gx 16 = fk1 from (ex_fk1)) (tk0 := tk1) (e_tk0 := show Gx 11 = tk1 from (ex_tk1))  (h_g := ⟨(by decide), (by decide)⟩)  (p_0 := by omega)) (fun o V' hq => ?_)
    obtain ⟨G87, A88, at2_89, tk2_90, fk2_91, rfl, rfl, hW92, hF93, e94, e95, e96, p97, p98, q99⟩ := hq
    have hF100 := Fr_tr hFx hF93 (Fr_sub (by decide)) (Fr_sub (by decide))
    have hP101 := Pf_f hPx hF93 (by decide)
    have hS102 := Fx_f hSx hF93 (by decide)
    have hV103 := Fx_f hVx hF93 (by decide)
    have ec104 : ecn A88 (G87 31) = ec1 := (ecn_f (hF93.2 15 rfl) (hF93.1 31 rfl)).trans ex_ec1
    have bat2_89 : (0 : Int) ≤ at2_89 ∧ at2_89 ≤ 3002 := e94 ▸ hW92.1 10
    have ztk2_90 := tz_b tk2_90
    have btk2_90 : (0 : Int) ≤ tk2_90 ∧ tk2_90 ≤ 5 := e95 ▸ hW92.1 11
    have bfk2_91 : (0 : Int) ≤ fk2_91 ∧ fk2_91 ≤ 6 := e96 ▸ hW92.1 16
    refine .inl ⟨rfl, ?_⟩
    rcases q99 with ⟨a105, a106, a107, a108⟩ | ⟨a109, a110, a111, a112⟩
    · have _q : True := trivial
      have z113 := tz_f (tk2_90)
      exact c_readSeq_w_at_116p (X := X) (k := k) (hP := hP) (d := d) (Vs := Vs) (sb := sb) (pb := pb) (hvb := hvb) (c0 := c0) (c1 := c1) (G := G) (A := A) (T := T) (lv := lv) (ln := ln) (li := li) (at0 := at0) (fk := fk) (nd := nd) (sy := sy) (na := na) (vi := vi) (le := le) (op0 := op0) (tk0 := tk0) (ec := ec) (hd := hd) (hW := hW) (e_ln := e_ln) (e_li := e_li) (e_at0 := e_at0) (e_fk := e_fk) (e_nd := e_nd) (e_sy := e_sy) (e_na := e_na) (e_vi := e_vi) (e_le := e_le) (e_op0 := e_op0) (e_tk0 := e_tk0) (e_ec := e_ec) (i_LT := i_LT) (i_SV := i_SV) (i_PQ := i_PQ) (h_lv := h_lv) (p_0 := p_0) (p_1 := p_1) (p_2 := p_2) (p_3 := p_3) (p_4 := p_4) (p_5 := p_5) (p_6 := p_6) (p_7 := p_7) (p_8 := p_8) (p_9 := p_9) (p_10 := p_10) L G87 A88 (n) (at2_89) (tk2_90) (fk2_91) (nd1) (op1) (sy1) (na1) (ec1) gL_0 gL_1 gL_2 hW92 hF100 hP101 hS102 hV103 ((e94)) ((e95)) ((e96)) (((hF93.1 31 rfl).trans (ex_nd1))) (((hF93.1 15 rfl).trans (ex_op1))) (((hF93.1 19 rfl).trans (ex_sy1))) (((hF93.1 28 rfl).trans (ex_na1))) (ec104) (((hF93.1 9 rfl).trans (fx_9))) (((hF93.1 29 rfl).trans (fx_29))) (by omega) (by omega) (by omega) (by omega) (by omega) (by omega) (by omega) (by omega) (by omega)
    · have _q : True := trivial
      exfalso
      omega
  · have _q : True := trivial
    refine jx_vr (pc' := 116) (as := [.int (i32 (0))]) (st := []) rfl rfl rfl rfl ⟨rfl, rfl, Nat.le_of_ble_eq_true rfl⟩ rfl rfl (c_need (dd := d) (hd := by omega) (hW := hWx) (g := 0) (ln := ln) (e_ln := show Gx 9 = ln from (fx_9)) (le := le) (e_le := show Ax 4 (ln).toNat = le from (congrFun (hFx.2 4 rfl) _).trans (e_le)) (at0 := at1) (e_at0 := show Gx 10 = at1 from (ex_at1)) (fk := fk1) (e_fk := show Gx 16 = fk1 from (ex_fk1)) (tk0 := tk1) (e_tk0 := show Gx 11 = tk1 from (ex_tk1))  (h_g := ⟨(by decide), (by decide)⟩)  (p_0 := by omega)) (fun o V' hq => ?_)
    obtain ⟨G114, A115, at2_116, tk2_117, fk2_118, rfl, rfl, hW119, hF120, e121, e122, e123, p124, p125, q126⟩ := hq
    have hF127 := Fr_tr hFx hF120 (Fr_sub (by decide)) (Fr_sub (by decide))
    have hP128 := Pf_f hPx hF120 (by decide)
    have hS129 := Fx_f hSx hF120 (by decide)
    have hV130 := Fx_f hVx hF120 (by decide)
    have ec131 : ecn A115 (G114 31) = ec1 := (ecn_f (hF120.2 15 rfl) (hF120.1 31 rfl)).trans ex_ec1
    have bat2_116 : (0 : Int) ≤ at2_116 ∧ at2_116 ≤ 3002 := e121 ▸ hW119.1 10
    have ztk2_117 := tz_b tk2_117
    have btk2_117 : (0 : Int) ≤ tk2_117 ∧ tk2_117 ≤ 5 := e122 ▸ hW119.1 11
    have bfk2_118 : (0 : Int) ≤ fk2_118 ∧ fk2_118 ≤ 6 := e123 ▸ hW119.1 16
    refine .inl ⟨rfl, ?_⟩
    rcases q126 with ⟨a132, a133, a134, a135⟩ | ⟨a136, a137, a138, a139⟩
    · have _q : True := trivial
      have z140 := tz_f (tk2_117)
      exact c_readSeq_w_at_116p (X := X) (k := k) (hP := hP) (d := d) (Vs := Vs) (sb := sb) (pb := pb) (hvb := hvb) (c0 := c0) (c1 := c1) (G := G) (A := A) (T := T) (lv := lv) (ln := ln) (li := li) (at0 := at0) (fk := fk) (nd := nd) (sy := sy) (na := na) (vi := vi) (le := le) (op0 := op0) (tk0 := tk0) (ec := ec) (hd := hd) (hW := hW) (e_ln := e_ln) (e_li := e_li) (e_at0 := e_at0) (e_fk := e_fk) (e_nd := e_nd) (e_sy := e_sy) (e_na := e_na) (e_vi := e_vi) (e_le := e_le) (e_op0 := e_op0) (e_tk0 := e_tk0) (e_ec := e_ec) (i_LT := i_LT) (i_SV := i_SV) (i_PQ := i_PQ) (h_lv := h_lv) (p_0 := p_0) (p_1 := p_1) (p_2 := p_2) (p_3 := p_3) (p_4 := p_4) (p_5 := p_5) (p_6 := p_6) (p_7 := p_7) (p_8 := p_8) (p_9 := p_9) (p_10 := p_10) L G114 A115 (n) (at2_116) (tk2_117) (fk2_118) (nd1) (op1) (sy1) (na1) (ec1) gL_0 gL_1 gL_2 hW119 hF127 hP128 hS129 hV130 ((e121)) ((e122)) ((e123)) (((hF120.1 31 rfl).trans (ex_nd1))) (((hF120.1 15 rfl).trans (ex_op1))) (((hF120.1 19 rfl).trans (ex_sy1))) (((hF120.1 28 rfl).trans (ex_na1))) (ec131) (((hF120.1 9 rfl).trans (fx_9))) (((hF120.1 29 rfl).trans (fx_29))) (by omega) (by omega) (by omega) (by omega) (by omega) (by omega) (by omega) (by omega) (by omega)
    · have _q : True := trivial
      exfalso
      omega
set_option maxRecDepth 20000 in
set_option maxHeartbeats 4000000 in
theorem c_readSeq_w_at_106 {X : jX} {k : Nat} (hP : RPw X k) {d : Nat} {Vs : Nat → Prop} {sb pb : Int} (hvb : VB Vs sb) {c0 c1 : jC} {G : Nat → Int} {A : Nat → Nat → Int} {T : jH} {lv : Int} {ln li at0 fk nd sy na vi le op0 tk0 ec : Int} (hd : 8 * k + 82 ≤ d + 1) (hW : Wk G A) (e_ln : G 9 = ln) (e_li : G 3 = li) (e_at0 : G 10 = at0) (e_fk : G 16 = fk) (e_nd : G 31 = nd) (e_sy : G 19 = sy) (e_na : G 28 = na) (e_vi : G 29 = vi) (e_le : A 4 (ln).toNat = le) (e_op0 : G 15 = op0) (e_tk0 : G 11 = tk0) (e_ec : ecn A (G 31) = ec) (i_LT : LT G A) (i_SV : SV Vs sb G A) (i_PQ : PQ Vs sb pb G A) (h_lv : (-2147483648 : Int) ≤ lv ∧ lv ≤ 2147483647) (p_0 : 0 ≤ lv ∧ lv ≤ 15) (p_1 : 18 - lv ≤ ((k + 1 : Nat) : Int)) (p_2 : fk = 0) (p_3 : ln < li) (p_4 : at0 ≤ le) (p_5 : op0 = 0) (p_6 : nd ≤ 2 * at0 - tz tk0 + 30) (p_7 : sy ≤ na + 2) (p_8 : vi ≤ sy) (p_9 : sb = sy) (p_10 : 1 ≤ tk0) : ∀ (L : jL) (Gx : Nat → Int) (Ax : Nat → Nat → Int) (n at1 tk1 fk1 nd1 op1 sy1 na1 sa1 ka1 exc ec1 : Int), jGet L 0 = some (.ref 66) → jGet L 1 = some (.int (i32 (lv))) → jGet L 2 = some (.int (i32 n)) → Wk Gx Ax → Fr [9, 10, 11, 12, 13, 14, 15, 16, 17, 18, 19, 28, 29, 31] [6, 7, 8, 9, 10, 11, 12, 14, 15, 16, 17, 18, 19, 20, 21, 22, 23, 24, 28] G A Gx Ax → Pf nd A Ax → Fx sr (sy) A Ax → Fx [14] (vi) A Ax → Gx 10 = at1 → Gx 11 = tk1 → Gx 16 = fk1 → Gx 31 = nd1 → Gx 15 = op1 → Gx 19 = sy1 → Gx 28 = na1 → Ax 17 (n).toNat = sa1 → Ax 7 (sa1).toNat = ka1 → Ax 19 (n).toNat = exc → ecn Ax (Gx 31) = ec1 → Gx 9 = ln → Gx 29 = vi → ((-2147483648 : Int) ≤ n ∧ n ≤ 2147483647) → (fk1 = 0) → (at0 ≤ at1) → (at1 ≤ le) → (n = nd) → (n ≤ 6998 ∧ n < nd1) → (sy1 = sy + 1) → (sa1 = sy) → (sy1 ≤ na1 + 2) → (op1 = 0) → (nd1 - nd ≤ (2 * at1 - tz tk1) - (2 * at0 - tz tk0)) → (ka1 = 9) → (ND Ax (n) (27) (sa1) (0) (exc) (0) (0) (0)) → (wE Ax Vs sb (20) (exc) (n + 1) (nd1)) → (nd1 - nd + 5 * (ec1 - ec) ≤ (2 * at1 - tz tk1) - (2 * at0 - tz tk0)) → wj X d jm297 (106, L, [], rV c0 c1 Gx Ax T) (fun o V' => ∃ (G' : Nat → Int) (A' : Nat → Nat → Int) (r : Int) (ln2 : Int) (at2 : Int) (fk2 : Int) (nd2 : Int) (sy2 : Int) (na2 : Int) (vi2 : Int) (lf2 : Int) (ec2 : Int), V' = rV c0 c1 G' A' T ∧ o = .inl (some (.int (i32 r))) ∧ Wk G' A' ∧ Fr [9, 10, 11, 12, 13, 14, 15, 16, 17, 18, 19, 28, 29, 31] [6, 7, 8, 9, 10, 11, 12, 14, 15, 16, 17, 18, 19, 20, 21, 22, 23, 24, 28] G A G' A' ∧ Pf nd A A' ∧ Fx sr (sy) A A' ∧ Fx [14] (vi) A A' ∧ ((-2147483648 : Int) ≤ r ∧ r ≤ 2147483647) ∧ G' 9 = ln2 ∧ G' 10 = at2 ∧ G' 16 = fk2 ∧ G' 31 = nd2 ∧ G' 19 = sy2 ∧ G' 28 = na2 ∧ G' 29 = vi2 ∧ A' 3 (ln2).toNat = lf2 ∧ ecn A' (G' 31) = ec2 ∧ (at0 ≤ at2) ∧ (nd ≤ nd2) ∧ (sy ≤ sy2) ∧ (sy2 ≤ na2 + 2) ∧ (vi ≤ vi2) ∧ (vi2 ≤ vi + 1) ∧ (0 ≤ r) ∧ (r ≤ 6999) ∧ (ln ≤ ln2) ∧ (ln2 ≤ li) ∧ (((1 ≤ fk2) ∧ (nd2 - nd ≤ 2 * at2 - (2 * at0 - tz tk0) + 14)) ∨ ((fk2 = 0) ∧ (vi2 = vi) ∧ (ln < ln2) ∧ (nd2 - nd ≤ 2 * at2 - (2 * at0 - tz tk0)) ∧ (at2 < lf2 ∨ li ≤ ln2) ∧ (nd ≤ r) ∧ (r < nd2) ∧ (wSt A' (sy2) pb (wP A' (sy2) pb (k)) (Vs) (r) (nd) (nd2) (sy) (sy2)) ∧ (NX A' (r)) ∧ (nd2 - nd + 5 * (ec2 - ec) ≤ 2 * at2 - (2 * at0 - tz tk0))))) := by
  have hF0 : Fr [9, 10, 11, 12, 13, 14, 15, 16, 17, 18, 19, 28, 29, 31] [6, 7, 8, 9, 10, 11, 12, 14, 15, 16, 17, 18, 19, 20, 21, 22, 23, 24, 28] G A G A := Fr_rf
  have hP0 : Pf nd A A := Pf_rf
  have hS0 : Fx sr (sy) A A := Fx_rf
  have hV0 : Fx [14] (vi) A A := Fx_rf
  have b_ln : (0 : Int) ≤ ln ∧ ln ≤ 3000 := e_ln ▸ hW.1 9
  have b_li : (0 : Int) ≤ li ∧ li ≤ 3000 := e_li ▸ hW.1 3
  have b_at0 : (0 : Int) ≤ at0 ∧ at0 ≤ 3002 := e_at0 ▸ hW.1 10
  have b_fk : (0 : Int) ≤ fk ∧ fk ≤ 6 := e_fk ▸ hW.1 16
  have b_nd : (0 : Int) ≤ nd ∧ nd ≤ 6999 := e_nd ▸ hW.1 31
  have b_sy : (0 : Int) ≤ sy ∧ sy ≤ 202 := e_sy ▸ hW.1 19
  have b_na : (0 : Int) ≤ na ∧ na ≤ 200 := e_na ▸ hW.1 28
  have b_vi : (0 : Int) ≤ vi ∧ vi ≤ 202 := e_vi ▸ hW.1 29
  have b_le : (0 : Int) ≤ le ∧ le ≤ 3000 := e_le ▸ hW.2 4 _
  have b_op0 : (-2147483648 : Int) ≤ op0 ∧ op0 ≤ 2147483647 := e_op0 ▸ hW.1 15
  have z_tk0 := tz_f tk0
  have b_tk0 : (0 : Int) ≤ tk0 ∧ tk0 ≤ 5 := e_tk0 ▸ hW.1 11
  intro L Gx Ax n at1 tk1 fk1 nd1 op1 sy1 na1 sa1 ka1 exc ec1 gL_0 gL_1 gL_2 hWx hFx hPx hSx hVx ex_at1 ex_tk1 ex_fk1 ex_nd1 ex_op1 ex_sy1 ex_na1 ex_sa1 ex_ka1 ex_exc ex_ec1 fx_9 fx_29 rx_n iv_0 iv_1 iv_2 iv_3 iv_4 iv_5 iv_6 iv_7 iv_8 iv_9 iv_10 iv_11 iv_12 iv_13
  have b_at1 : (0 : Int) ≤ at1 ∧ at1 ≤ 3002 := ex_at1 ▸ hWx.1 10
  have z_tk1 := tz_f tk1
  have b_tk1 : (0 : Int) ≤ tk1 ∧ tk1 ≤ 5 := ex_tk1 ▸ hWx.1 11
  have b_fk1 : (0 : Int) ≤ fk1 ∧ fk1 ≤ 6 := ex_fk1 ▸ hWx.1 16
  have b_nd1 : (0 : Int) ≤ nd1 ∧ nd1 ≤ 6999 := ex_nd1 ▸ hWx.1 31
  have b_op1 : (-2147483648 : Int) ≤ op1 ∧ op1 ≤ 2147483647 := ex_op1 ▸ hWx.1 15
  have b_sy1 : (0 : Int) ≤ sy1 ∧ sy1 ≤ 202 := ex_sy1 ▸ hWx.1 19
  have b_na1 : (0 : Int) ≤ na1 ∧ na1 ≤ 200 := ex_na1 ▸ hWx.1 28
  refine jx_ld (pc' := 107) (l' := L) (st' := [.ref 66]) rfl (jl_aloadn gL_0) ?_
  refine jx_ld (pc' := 108) (l' := L) (st' := [.ref 66, .ref 66]) rfl (jl_aloadn gL_0) ?_
  refine jx_ar (pc' := 110) (st' := [.int (i32 (13)), .ref 66, .ref 66]) rfl rfl rfl rfl ?_
  have b141 : (-2147483648 : Int) ≤ Gx 13 ∧ Gx 13 ≤ 2147483647 := hWx.1 13
  refine jx_vr (pc' := 113) (as := [.int (i32 (13))]) (st := [.ref 66]) rfl rfl rfl rfl ⟨rfl, rfl, Nat.le_of_ble_eq_true rfl⟩ rfl rfl (c_isKey (dd := d) (hd := by omega) (hW := hWx) (k := 13) (tk := tk1) (e_tk := show Gx 11 = tk1 from (ex_tk1)) (tn := Gx 13) (e_tn := show Gx 13 = Gx 13 from rfl)  (h_k := ⟨(by decide), (by decide)⟩)  ) (fun o V' hq => ?_)
  obtain ⟨r142, rfl, rfl, b143, q144⟩ := hq
  refine .inr ⟨_, rfl, ?_⟩
  rcases q144 with ⟨rfl, a145, a146, a147⟩ | rfl
  · have _q : True := trivial
    refine jx_vr (pc' := 116) (as := [.int (i32 (1))]) (st := []) rfl rfl rfl rfl ⟨rfl, rfl, Nat.le_of_ble_eq_true rfl⟩ rfl rfl (c_need (dd := d) (hd := by omega) (hW := hWx) (g := 1) (ln := ln) (e_ln := show Gx 9 = ln from (fx_9)) (le := le) (e_le := show Ax 4 (ln).toNat = le from (congrFun (hFx.2 4 rfl) _).trans (e_le)) (at0 := at1) (e_at0 := show Gx 10 = at1 from (ex_at1)) (fk := fk1) (e_fk := show Gx 16 = fk1 from (ex_fk1)) (tk0 := tk1) (e_tk0 := show Gx 11 = tk1 from (ex_tk1))  (h_g := ⟨(by decide), (by decide)⟩)  (p_0 := by omega)) (fun o V' hq => ?_)
    obtain ⟨G148, A149, at2_150, tk2_151, fk2_152, rfl, rfl, hW153, hF154, e155, e156, e157, p158, p159, q160⟩ := hq
    have hF161 := Fr_tr hFx hF154 (Fr_sub (by decide)) (Fr_sub (by decide))
    have hP162 := Pf_f hPx hF154 (by decide)
    have hS163 := Fx_f hSx hF154 (by decide)
    have hV164 := Fx_f hVx hF154 (by decide)
    have sf165 : ND A149 (n) (27) (sa1) (0) (exc) (0) (0) (0) := ND_ag (by omega) (Ag_fr hF154 (by decide)) iv_11
    have sf166 : wE A149 Vs sb (20) (exc) (n + 1) (nd1) := wE_ag (by omega) (Sg_fr hF154 (by decide)) (Ag_fr hF154 (by decide)) iv_12
    have ec167 : ecn A149 (G148 31) = ec1 := (ecn_f (hF154.2 15 rfl) (hF154.1 31 rfl)).trans ex_ec1
    have bat2_150 : (0 : Int) ≤ at2_150 ∧ at2_150 ≤ 3002 := e155 ▸ hW153.1 10
    have ztk2_151 := tz_b tk2_151
    have btk2_151 : (0 : Int) ≤ tk2_151 ∧ tk2_151 ≤ 5 := e156 ▸ hW153.1 11
    have bfk2_152 : (0 : Int) ≤ fk2_152 ∧ fk2_152 ≤ 6 := e157 ▸ hW153.1 16
    refine .inl ⟨rfl, ?_⟩
    rcases q160 with ⟨a168, a169, a170, a171⟩ | ⟨a172, a173, a174, a175⟩
    · have _q : True := trivial
      have z176 := tz_f (tk2_151)
      exact c_readSeq_w_at_116p (X := X) (k := k) (hP := hP) (d := d) (Vs := Vs) (sb := sb) (pb := pb) (hvb := hvb) (c0 := c0) (c1 := c1) (G := G) (A := A) (T := T) (lv := lv) (ln := ln) (li := li) (at0 := at0) (fk := fk) (nd := nd) (sy := sy) (na := na) (vi := vi) (le := le) (op0 := op0) (tk0 := tk0) (ec := ec) (hd := hd) (hW := hW) (e_ln := e_ln) (e_li := e_li) (e_at0 := e_at0) (e_fk := e_fk) (e_nd := e_nd) (e_sy := e_sy) (e_na := e_na) (e_vi := e_vi) (e_le := e_le) (e_op0 := e_op0) (e_tk0 := e_tk0) (e_ec := e_ec) (i_LT := i_LT) (i_SV := i_SV) (i_PQ := i_PQ) (h_lv := h_lv) (p_0 := p_0) (p_1 := p_1) (p_2 := p_2) (p_3 := p_3) (p_4 := p_4) (p_5 := p_5) (p_6 := p_6) (p_7 := p_7) (p_8 := p_8) (p_9 := p_9) (p_10 := p_10) L G148 A149 (n) (at2_150) (tk2_151) (fk2_152) (nd1) (op1) (sy1) (na1) (ec1) gL_0 gL_1 gL_2 hW153 hF161 hP162 hS163 hV164 ((e155)) ((e156)) ((e157)) (((hF154.1 31 rfl).trans (ex_nd1))) (((hF154.1 15 rfl).trans (ex_op1))) (((hF154.1 19 rfl).trans (ex_sy1))) (((hF154.1 28 rfl).trans (ex_na1))) (ec167) (((hF154.1 9 rfl).trans (fx_9))) (((hF154.1 29 rfl).trans (fx_29))) (by omega) (by omega) (by omega) (by omega) (by omega) (by omega) (by omega) (by omega) (by omega)
    · have _q : True := trivial
      have pz177 : at1 + tz tk2_151 ≤ at2_150 := by omega
      refine jx_ld (pc' := 117) (l' := L) (st' := [.ref 66]) rfl (jl_aloadn gL_0) ?_
      refine jr_get (pc' := 120) (i := 37) (v := .ref 87) rfl rfl (by decide) rfl rfl ?_
      refine jx_ld (pc' := 121) (l' := L) (st' := [.int (i32 (n)), .ref 87]) rfl (jl_iloadn gL_2) ?_
      refine jx_ld (pc' := 122) (l' := L) (st' := [.ref 66, .int (i32 (n)), .ref 87]) rfl (jl_aloadn gL_0) ?_
      refine jx_vr (pc' := 125) (as := []) (st := [.int (i32 (n)), .ref 87]) rfl rfl rfl rfl ⟨rfl, rfl, Nat.le_of_ble_eq_true rfl⟩ rfl rfl (REw_all X 9 (dd := d) (hd := by omega) (hW := hW153)  (ln := ln) (e_ln := show G148 9 = ln from ((hF154.1 9 rfl).trans (fx_9))) (le := le) (e_le := show A149 4 (ln).toNat = le from (congrFun ((hF154.2 4 rfl).trans (hFx.2 4 rfl)) _).trans (e_le)) (at0 := at2_150) (e_at0 := show G148 10 = at2_150 from (e155)) (fk := fk2_152) (e_fk := show G148 16 = fk2_152 from (e157)) (op0 := op1) (e_op0 := show G148 15 = op1 from ((hF154.1 15 rfl).trans (ex_op1))) (nd := nd1) (e_nd := show G148 31 = nd1 from ((hF154.1 31 rfl).trans (ex_nd1))) (tk0 := tk2_151) (e_tk0 := show G148 11 = tk2_151 from (e156)) (ec := ec1) (e_ec := show ecn A149 (G148 31) = ec1 from ec167) (i_SV := (SV_fx i_SV e_vi (show G148 29 = vi from ((hF154.1 29 rfl).trans (fx_29))) (by omega) hV164))   (p_0 := by omega) (p_1 := by omega) (p_2 := by omega) (p_3 := by omega) (p_4 := by omega) (p_5 := by omega)) (fun o V' hq => ?_)
      obtain ⟨G178, A179, r180, at2_181, fk2_182, op2_183, nd2_184, tk2_185, ec2_186, rfl, rfl, hW187, hF188, hQ189, b190, e191, e192, e193, e194, e195, e196, p197, p198, p199, p200, p201, p202, q203⟩ := hq
      have hF204 := Fr_tr hF161 hF188 (Fr_sub (by decide)) (Fr_sub (by decide))
      have k205 : A179 17 (n).toNat = sa1 := (hQ189 17 _ rfl (by omega)).trans (show A149 17 (n).toNat = sa1 from (congrFun (hF154.2 17 rfl) _).trans (ex_sa1))
      have k206 : A179 19 (n).toNat = exc := (hQ189 19 _ rfl (by omega)).trans (show A149 19 (n).toNat = exc from (congrFun (hF154.2 19 rfl) _).trans (ex_exc))
      have hP207 := Pf_tr hP162 hQ189 (by omega)
      have hS208 := Fx_f hS163 hF188 (by decide)
      have hV209 := Fx_f hV164 hF188 (by decide)
      have sf210 : ND A179 (n) (27) (sa1) (0) (exc) (0) (0) (0) := ND_ag (by omega) (Ag_pf hQ189 (by omega)) sf165
      have sf211 : wE A179 Vs sb (20) (exc) (n + 1) (nd1) := wE_ag (by omega) (Sg_fr hF188 (by decide)) (Ag_pf hQ189 (by omega)) sf166
      have bat2_181 : (0 : Int) ≤ at2_181 ∧ at2_181 ≤ 3002 := e191 ▸ hW187.1 10
      have bfk2_182 : (0 : Int) ≤ fk2_182 ∧ fk2_182 ≤ 6 := e192 ▸ hW187.1 16
      have bop2_183 : (-2147483648 : Int) ≤ op2_183 ∧ op2_183 ≤ 2147483647 := e193 ▸ hW187.1 15
      have bnd2_184 : (0 : Int) ≤ nd2_184 ∧ nd2_184 ≤ 6999 := e194 ▸ hW187.1 31
      have ztk2_185 := tz_b tk2_185
      have btk2_185 : (0 : Int) ≤ tk2_185 ∧ tk2_185 ≤ 5 := e195 ▸ hW187.1 11
      refine .inr ⟨_, rfl, ?_⟩
      rcases q203 with ⟨a212, a213, a214, a215, a216, a217⟩ | ⟨a218, a219, a220⟩ | ⟨a221, a222, a223, a224, a225, a226⟩
      · have _q : True := trivial
        exfalso
        omega
      · have _q : True := trivial
        refine jr_st (pc' := 126) (i := 20) (m := 7000) (z := n) (y := r180) rfl (by decide) rfl (by decide) (by omega) (by omega) rfl ?_
        have hW228 : Wk G178 (uA A179 20 (n).toNat (r180)) := Wk_a hW187 (show (-2147483648 : Int) ≤ r180 by omega) (show r180 ≤ (2147483647 : Int) by omega)
        have hF229 := Fr_a (z := r180) (k := 20) (n := (n).toNat) hF204 (by decide)
        obtain ⟨A227, eA227⟩ : ∃ q, q = uA A179 20 (n).toNat (r180) := ⟨_, rfl⟩
        rw [← eA227]
        rw [← eA227] at hW228 hF229
        have q230 : A227 20 (n).toNat = r180 := by rw [eA227]; exact uA_eq
        have hP231 : Pf nd A A227 := eA227 ▸ Pf_a hP207 (z := n) (by omega) (by omega)
        have hS232 : Fx sr (sy) A A227 := eA227 ▸ Fx_n hS208 rfl
        have hV233 : Fx [14] (vi) A A227 := eA227 ▸ Fx_n hV209 rfl
        have sf234 : ND A227 (n) (27) (sa1) (0) (exc) (r180) (0) (0) := ND_d eA227 sf210
        have sf235 : wE A227 Vs sb (20) (exc) (n + 1) (nd1) := wE_ag (by omega) (Sg_ne eA227 rfl) (Ag_st eA227 (by omega) (by omega)) sf211
        have ec236 : ecn A227 (G178 31) = ec2_186 := (ecn_e ((congrFun eA227 15).trans (uA_ne (by decide)))).trans e196
        have z237 := tz_f (tk2_185)
        exact c_readSeq_w_at_126p (X := X) (k := k) (hP := hP) (d := d) (Vs := Vs) (sb := sb) (pb := pb) (hvb := hvb) (c0 := c0) (c1 := c1) (G := G) (A := A) (T := T) (lv := lv) (ln := ln) (li := li) (at0 := at0) (fk := fk) (nd := nd) (sy := sy) (na := na) (vi := vi) (le := le) (op0 := op0) (tk0 := tk0) (ec := ec) (hd := hd) (hW := hW) (e_ln := e_ln) (e_li := e_li) (e_at0 := e_at0) (e_fk := e_fk) (e_nd := e_nd) (e_sy := e_sy) (e_na := e_na) (e_vi := e_vi) (e_le := e_le) (e_op0 := e_op0) (e_tk0 := e_tk0) (e_ec := e_ec) (i_LT := i_LT) (i_SV := i_SV) (i_PQ := i_PQ) (h_lv := h_lv) (p_0 := p_0) (p_1 := p_1) (p_2 := p_2) (p_3 := p_3) (p_4 := p_4) (p_5 := p_5) (p_6 := p_6) (p_7 := p_7) (p_8 := p_8) (p_9 := p_9) (p_10 := p_10) L G178 A227 (n) (at2_181) (tk2_185) (fk2_182) (nd2_184) (op2_183) (sy1) (na1) (ec2_186) gL_0 gL_1 gL_2 hW228 hF229 hP231 hS232 hV233 ((e191)) ((e195)) ((e192)) ((e194)) ((e193)) (((hF188.1 19 rfl).trans ((hF154.1 19 rfl).trans (ex_sy1)))) (((hF188.1 28 rfl).trans ((hF154.1 28 rfl).trans (ex_na1)))) (ec236) (((hF188.1 9 rfl).trans ((hF154.1 9 rfl).trans (fx_9)))) (((hF188.1 29 rfl).trans ((hF154.1 29 rfl).trans (fx_29)))) (by omega) (by omega) (by omega) (by omega) (by omega) (by omega) (by omega) (by omega) (by omega)
      · have _q : True := trivial
        refine jr_st (pc' := 126) (i := 20) (m := 7000) (z := n) (y := r180) rfl (by decide) rfl (by decide) (by omega) (by omega) rfl ?_
        have hW239 : Wk G178 (uA A179 20 (n).toNat (r180)) := Wk_a hW187 (show (-2147483648 : Int) ≤ r180 by omega) (show r180 ≤ (2147483647 : Int) by omega)
        have hF240 := Fr_a (z := r180) (k := 20) (n := (n).toNat) hF204 (by decide)
        obtain ⟨A238, eA238⟩ : ∃ q, q = uA A179 20 (n).toNat (r180) := ⟨_, rfl⟩
        rw [← eA238]
        rw [← eA238] at hW239 hF240
        have q241 : A238 20 (n).toNat = r180 := by rw [eA238]; exact uA_eq
        have hP242 : Pf nd A A238 := eA238 ▸ Pf_a hP207 (z := n) (by omega) (by omega)
        have hS243 : Fx sr (sy) A A238 := eA238 ▸ Fx_n hS208 rfl
        have hV244 : Fx [14] (vi) A A238 := eA238 ▸ Fx_n hV209 rfl
        have sf245 : ND A238 (n) (27) (sa1) (0) (exc) (r180) (0) (0) := ND_d eA238 sf210
        have sf246 : wE A238 Vs sb (20) (exc) (n + 1) (nd1) := wE_ag (by omega) (Sg_ne eA238 rfl) (Ag_st eA238 (by omega) (by omega)) sf211
        have sf247 : wE A238 Vs sb (2 * 9 + 2) (r180) (nd1) (nd2_184) := wE_ag (by omega) (Sg_ne eA238 rfl) (Ag_st eA238 (by omega) (by omega)) a224
        have ec248 : ecn A238 (G178 31) = ec2_186 := (ecn_e ((congrFun eA238 15).trans (uA_ne (by decide)))).trans e196
        refine jx_ld (pc' := 127) (l' := L) (st' := [.ref 66]) rfl (jl_aloadn gL_0) ?_
        refine jx_vr (pc' := 130) (as := []) (st := []) rfl rfl rfl rfl ⟨rfl, rfl, Nat.le_of_ble_eq_true rfl⟩ rfl rfl (c_endLine (dd := d) (hd := by omega) (hW := hW239)  (ln := ln) (e_ln := show G178 9 = ln from ((hF188.1 9 rfl).trans ((hF154.1 9 rfl).trans (fx_9)))) (li := li) (e_li := show G178 3 = li from ((hF188.1 3 rfl).trans ((hF154.1 3 rfl).trans ((hFx.1 3 rfl).trans (e_li))))) (fk := fk2_182) (e_fk := show G178 16 = fk2_182 from (e192)) (tk0 := tk2_185) (e_tk0 := show G178 11 = tk2_185 from (e195))    (p_0 := by omega)) (fun o V' hq => ?_)
        obtain ⟨G249, A250, ln2_251, fk2_252, rfl, rfl, hW253, hF254, e255, e256, q257⟩ := hq
        have hF258 := Fr_tr hF240 hF254 (Fr_sub (by decide)) (Fr_sub (by decide))
        have hP259 := Pf_f hP242 hF254 (by decide)
        have hS260 := Fx_f hS243 hF254 (by decide)
        have hV261 := Fx_f hV244 hF254 (by decide)
        have sf262 : ND A250 (n) (27) (sa1) (0) (exc) (r180) (0) (0) := ND_ag (by omega) (Ag_fr hF254 (by decide)) sf245
        have sf263 : wE A250 Vs sb (20) (exc) (n + 1) (nd1) := wE_ag (by omega) (Sg_fr hF254 (by decide)) (Ag_fr hF254 (by decide)) sf246
        have sf264 : wE A250 Vs sb (2 * 9 + 2) (r180) (nd1) (nd2_184) := wE_ag (by omega) (Sg_fr hF254 (by decide)) (Ag_fr hF254 (by decide)) sf247
        have ec265 : ecn A250 (G249 31) = ec2_186 := (ecn_f (hF254.2 15 rfl) (hF254.1 31 rfl)).trans ec248
        have bln2_251 : (0 : Int) ≤ ln2_251 ∧ ln2_251 ≤ 3000 := e255 ▸ hW253.1 9
        have bfk2_252 : (0 : Int) ≤ fk2_252 ∧ fk2_252 ≤ 6 := e256 ▸ hW253.1 16
        refine .inl ⟨rfl, ?_⟩
        rcases q257 with ⟨a266, a267, a268, a269, a270⟩ | ⟨a271, a272⟩
        · have _q : True := trivial
          have b273 : (0 : Int) ≤ A 3 (ln2_251).toNat ∧ A 3 (ln2_251).toNat ≤ 3000 := hW.2 3 _
          have lt274 : ln2_251 < li → le < A 3 (ln2_251).toNat := fun hh => LT_nx (LT_ext (((hF254.1 3 rfl).trans ((hF188.1 3 rfl).trans ((hF154.1 3 rfl).trans (hFx.1 3 rfl))))) (((hF254.2 3 rfl).trans (((congrFun eA238 3).trans (uA_ne (by decide))).trans ((hF188.2 3 rfl).trans ((hF154.2 3 rfl).trans (hFx.2 3 rfl)))))) (((hF254.2 4 rfl).trans (((congrFun eA238 4).trans (uA_ne (by decide))).trans ((hF188.2 4 rfl).trans ((hF154.2 4 rfl).trans (hFx.2 4 rfl)))))) i_LT) (show G249 3 = li from ((hF254.1 3 rfl).trans ((hF188.1 3 rfl).trans ((hF154.1 3 rfl).trans ((hFx.1 3 rfl).trans (e_li)))))) (show A250 4 (ln).toNat = le from (congrFun ((hF254.2 4 rfl).trans (((congrFun eA238 4).trans (uA_ne (by decide))).trans ((hF188.2 4 rfl).trans ((hF154.2 4 rfl).trans (hFx.2 4 rfl))))) _).trans (e_le)) (show A250 3 (ln2_251).toNat = A 3 (ln2_251).toNat from (congrFun ((hF254.2 3 rfl).trans (((congrFun eA238 3).trans (uA_ne (by decide))).trans ((hF188.2 3 rfl).trans ((hF154.2 3 rfl).trans (hFx.2 3 rfl))))) _)) (show ln2_251 = ln + 1 by omega) (by omega) hh
          refine jx_ld (pc' := 131) (l' := L) (st' := [.ref 66]) rfl (jl_aloadn gL_0) ?_
          refine jx_ld (pc' := 132) (l' := L) (st' := [.int (i32 (n)), .ref 66]) rfl (jl_iloadn gL_2) ?_
          refine jx_ld (pc' := 133) (l' := L) (st' := [.int (i32 (lv)), .int (i32 (n)), .ref 66]) rfl (jl_iloadn gL_1) ?_
          refine jx_vr (pc' := 136) (as := [.int (i32 (n)), .int (i32 (lv))]) (st := []) rfl rfl rfl rfl ⟨rfl, rfl, Nat.le_of_ble_eq_true rfl⟩ rfl rfl (c_readIndexed_w (dd := d) (hP := hP) (zz := nd) (hd := by omega) (hW := hW253) (n := n) (lv := lv) (kk := 27) (bb := 0) (cc := exc) (de := r180) (xx := 0) (ln := ln2_251) (e_ln := show G249 9 = ln2_251 from (e255)) (li := li) (e_li := show G249 3 = li from ((hF254.1 3 rfl).trans ((hF188.1 3 rfl).trans ((hF154.1 3 rfl).trans ((hFx.1 3 rfl).trans (e_li)))))) (at0 := at2_181) (e_at0 := show G249 10 = at2_181 from ((hF254.1 10 rfl).trans (e191))) (fk := fk2_252) (e_fk := show G249 16 = fk2_252 from (e256)) (nd := nd2_184) (e_nd := show G249 31 = nd2_184 from ((hF254.1 31 rfl).trans (e194))) (sy := sy1) (e_sy := show G249 19 = sy1 from ((hF254.1 19 rfl).trans ((hF188.1 19 rfl).trans ((hF154.1 19 rfl).trans (ex_sy1))))) (na := na1) (e_na := show G249 28 = na1 from ((hF254.1 28 rfl).trans ((hF188.1 28 rfl).trans ((hF154.1 28 rfl).trans (ex_na1))))) (vi := vi) (e_vi := show G249 29 = vi from ((hF254.1 29 rfl).trans ((hF188.1 29 rfl).trans ((hF154.1 29 rfl).trans (fx_29))))) (lf := A 3 (ln2_251).toNat) (e_lf := show A250 3 (ln2_251).toNat = A 3 (ln2_251).toNat from (congrFun ((hF254.2 3 rfl).trans (((congrFun eA238 3).trans (uA_ne (by decide))).trans ((hF188.2 3 rfl).trans ((hF154.2 3 rfl).trans (hFx.2 3 rfl))))) _)) (sa := sa1) (e_sa := show A250 17 (n).toNat = sa1 from (congrFun ((hF254.2 17 rfl).trans ((congrFun eA238 17).trans (uA_ne (by decide)))) _).trans (k205)) (ksa := ka1) (e_ksa := show A250 7 (sa1).toNat = ka1 from (congrFun ((hF254.2 7 rfl).trans (((congrFun eA238 7).trans (uA_ne (by decide))).trans ((hF188.2 7 rfl).trans (hF154.2 7 rfl)))) _).trans (ex_ka1)) (ec := ec2_186) (e_ec := show ecn A250 (G249 31) = ec2_186 from ec265) (i_LT := (LT_ext (((hF254.1 3 rfl).trans ((hF188.1 3 rfl).trans ((hF154.1 3 rfl).trans (hFx.1 3 rfl))))) (((hF254.2 3 rfl).trans (((congrFun eA238 3).trans (uA_ne (by decide))).trans ((hF188.2 3 rfl).trans ((hF154.2 3 rfl).trans (hFx.2 3 rfl)))))) (((hF254.2 4 rfl).trans (((congrFun eA238 4).trans (uA_ne (by decide))).trans ((hF188.2 4 rfl).trans ((hF154.2 4 rfl).trans (hFx.2 4 rfl)))))) i_LT)) (i_SV := (SV_fx i_SV e_vi (show G249 29 = vi from ((hF254.1 29 rfl).trans ((hF188.1 29 rfl).trans ((hF154.1 29 rfl).trans (fx_29))))) (by omega) hV261)) (i_PQ := (PQ_fx i_PQ hS260 (by omega) (hF258.2 29 rfl) (hF258.2 30 rfl))) (hvb := hvb) (h_n := ⟨(Int.le_trans (by decide : (-2147483648 : Int) ≤ -2147483648) rx_n.1), (Int.le_trans rx_n.2 (by decide : (2147483647 : Int) ≤ 2147483647))⟩) (h_lv := ⟨(Int.le_trans (by decide : (-2147483648 : Int) ≤ -2147483648) h_lv.1), (Int.le_trans h_lv.2 (by decide : (2147483647 : Int) ≤ 2147483647))⟩)  (p_0 := by omega) (p_1 := by omega) (p_2 := by omega) (p_3 := by omega) (p_4 := by omega) (p_5 := by omega) (p_6 := by omega) (p_7 := by omega) (p_8 := by omega) (p_9 := by omega) (p_10 := by omega) (p_11 := by omega) (p_12 := by omega) (p_13 := by omega) (p_14 := by omega) (p_15 := by omega) (p_16 := sf262)) (fun o V' hq => ?_)
          obtain ⟨G275, A276, ln2_277, at2_278, fk2_279, nd2_280, sy2_281, na2_282, vi2_283, lf2_284, f2_285, ec2_286, rfl, rfl, hW287, hF288, hQ289, hQ290, hQ291, hQ292, e293, e294, e295, e296, e297, e298, e299, e300, e301, e302, p303, p304, p305, p306, p307, p308, p309, q310⟩ := hq
          have hF311 := Fr_tr hF258 hF288 (Fr_sub (by decide)) (Fr_sub (by decide))
          have hP312 := Pf_tr hP259 hQ289 (by omega)
          have hS313 := Fx_tr hS260 hQ291 (by omega)
          have hV314 := Fx_tr hV261 hQ292 (by omega)
          have k315 : A276 7 (sa1).toNat = ka1 := (hQ291 7 _ rfl (by omega)).trans (show A250 7 (sa1).toNat = ka1 from (congrFun ((hF254.2 7 rfl).trans (((congrFun eA238 7).trans (uA_ne (by decide))).trans ((hF188.2 7 rfl).trans (hF154.2 7 rfl)))) _).trans (ex_ka1))
          have sf316 : wE A276 Vs sb (20) (exc) (n + 1) (nd1) := wE_ag (by omega) (Fx_su hQ291 (by omega)) (Ag_px hQ290 (by omega) (by omega)) sf263
          have sf317 : wE A276 Vs sb (2 * 9 + 2) (r180) (nd1) (nd2_184) := wE_ag (by omega) (Fx_su hQ291 (by omega)) (Ag_px hQ290 (by omega) (by omega)) sf264
          have bln2_277 : (0 : Int) ≤ ln2_277 ∧ ln2_277 ≤ 3000 := e293 ▸ hW287.1 9
          have bat2_278 : (0 : Int) ≤ at2_278 ∧ at2_278 ≤ 3002 := e294 ▸ hW287.1 10
          have bfk2_279 : (0 : Int) ≤ fk2_279 ∧ fk2_279 ≤ 6 := e295 ▸ hW287.1 16
          have bnd2_280 : (0 : Int) ≤ nd2_280 ∧ nd2_280 ≤ 6999 := e296 ▸ hW287.1 31
          have bsy2_281 : (0 : Int) ≤ sy2_281 ∧ sy2_281 ≤ 202 := e297 ▸ hW287.1 19
          have bna2_282 : (0 : Int) ≤ na2_282 ∧ na2_282 ≤ 200 := e298 ▸ hW287.1 28
          have bvi2_283 : (0 : Int) ≤ vi2_283 ∧ vi2_283 ≤ 202 := e299 ▸ hW287.1 29
          have blf2_284 : (0 : Int) ≤ lf2_284 ∧ lf2_284 ≤ 3000 := e300 ▸ hW287.2 3 _
          have bf2_285 : (-2147483648 : Int) ≤ f2_285 ∧ f2_285 ≤ 2147483647 := e301 ▸ hW287.2 21 _
          refine .inr ⟨_, rfl, ?_⟩
          rcases q310 with ⟨a318, a319⟩ | ⟨a320, a321, a322, a323, a324, a325, a326⟩
          · have _q : True := trivial
            refine jx_rt (v := some (.int (i32 (n)))) rfl rfl rfl rfl rfl rfl ?_
            exact ⟨_, _, _, ln2_277, at2_278, fk2_279, nd2_280, sy2_281, na2_282, vi2_283, lf2_284, ec2_286, rfl, rfl, hW287, hF311, hP312, hS313, hV314, by omega, (e293), (e294), (e295), (e296), (e297), (e298), (e299), (e300), e302, by omega, by omega, by omega, by omega, by omega, by omega, by omega, by omega, by omega, by omega, by first | exact Or.inl (⟨by omega, by omega⟩)⟩
          · have _q : True := trivial
            refine jx_rt (v := some (.int (i32 (n)))) rfl rfl rfl rfl rfl rfl ?_
            exact ⟨_, _, _, ln2_277, at2_278, fk2_279, nd2_280, sy2_281, na2_282, vi2_283, lf2_284, ec2_286, rfl, rfl, hW287, hF311, hP312, hS313, hV314, by omega, (e293), (e294), (e295), (e296), (e297), (e298), (e299), (e300), e302, by omega, by omega, by omega, by omega, by omega, by omega, by omega, by omega, by omega, by omega, by first | exact Or.inr ((⟨by omega, by omega, by omega, by omega, by omega, by omega, by omega, (wS_for (u := nd1) (v := nd2_184) (ND_ae a324 (by omega : sa1 = sy)) (by omega) (by rw [← (by omega : sa1 = sy)]; exact (show A276 7 (sa1).toNat = ka1 from (k315)).trans (by omega)) (by omega) (by omega) (by omega) (wE_sb (by omega) (wE_mono (by omega) (by omega) (by omega) sf316)) (wE_sb (by omega) (wE_mono (by omega) (by omega) (by omega) sf317)) (wP_vu (by omega : sa1 = sy) (wP_eq a325 (by omega) rfl (by omega) (by omega) (by omega) (by omega) (by omega) (by omega)))), (NX_nd a324), by omega⟩))⟩
        · have _q : True := trivial
          refine jx_ld (pc' := 131) (l' := L) (st' := [.ref 66]) rfl (jl_aloadn gL_0) ?_
          refine jx_ld (pc' := 132) (l' := L) (st' := [.int (i32 (n)), .ref 66]) rfl (jl_iloadn gL_2) ?_
          refine jx_ld (pc' := 133) (l' := L) (st' := [.int (i32 (lv)), .int (i32 (n)), .ref 66]) rfl (jl_iloadn gL_1) ?_
          refine jx_vr (pc' := 136) (as := [.int (i32 (n)), .int (i32 (lv))]) (st := []) rfl rfl rfl rfl ⟨rfl, rfl, Nat.le_of_ble_eq_true rfl⟩ rfl rfl (c_readIndexed_f (dd := d) (hd := by omega) (hW := hW253) (n := n) (lv := lv) (fk := fk2_252) (e_fk := show G249 16 = fk2_252 from (e256))  (h_n := ⟨(Int.le_trans (by decide : (-2147483648 : Int) ≤ -2147483648) rx_n.1), (Int.le_trans rx_n.2 (by decide : (2147483647 : Int) ≤ 2147483647))⟩) (h_lv := ⟨(Int.le_trans (by decide : (-2147483648 : Int) ≤ -2147483648) h_lv.1), (Int.le_trans h_lv.2 (by decide : (2147483647 : Int) ≤ 2147483647))⟩)  (p_0 := by omega)) (fun o V' hq => ?_)
          obtain ⟨r327, rfl, rfl, b328, p329, -⟩ := hq
          refine .inr ⟨_, rfl, ?_⟩
          refine jx_rt (v := some (.int (i32 (r327)))) rfl rfl rfl rfl rfl rfl ?_
          exact ⟨_, _, _, ln2_251, at2_181, fk2_252, nd2_184, sy1, na1, vi, A 3 (ln2_251).toNat, ec2_186, rfl, rfl, hW253, hF258, hP259, hS260, hV261, by omega, (e255), ((hF254.1 10 rfl).trans (e191)), (e256), ((hF254.1 31 rfl).trans (e194)), ((hF254.1 19 rfl).trans ((hF188.1 19 rfl).trans ((hF154.1 19 rfl).trans (ex_sy1)))), ((hF254.1 28 rfl).trans ((hF188.1 28 rfl).trans ((hF154.1 28 rfl).trans (ex_na1)))), ((hF254.1 29 rfl).trans ((hF188.1 29 rfl).trans ((hF154.1 29 rfl).trans (fx_29)))), (congrFun ((hF254.2 3 rfl).trans (((congrFun eA238 3).trans (uA_ne (by decide))).trans ((hF188.2 3 rfl).trans ((hF154.2 3 rfl).trans (hFx.2 3 rfl))))) _), ec265, by omega, by omega, by omega, by omega, by omega, by omega, by omega, by omega, by omega, by omega, by first | exact Or.inl (⟨by omega, by omega⟩)⟩
  · have _q : True := trivial
    refine jx_vr (pc' := 116) (as := [.int (i32 (0))]) (st := []) rfl rfl rfl rfl ⟨rfl, rfl, Nat.le_of_ble_eq_true rfl⟩ rfl rfl (c_need (dd := d) (hd := by omega) (hW := hWx) (g := 0) (ln := ln) (e_ln := show Gx 9 = ln from (fx_9)) (le := le) (e_le := show Ax 4 (ln).toNat = le from (congrFun (hFx.2 4 rfl) _).trans (e_le)) (at0 := at1) (e_at0 := show Gx 10 = at1 from (ex_at1)) (fk := fk1) (e_fk := show Gx 16 = fk1 from (ex_fk1)) (tk0 := tk1) (e_tk0 := show Gx 11 = tk1 from (ex_tk1))  (h_g := ⟨(by decide), (by decide)⟩)  (p_0 := by omega)) (fun o V' hq => ?_)
    obtain ⟨G331, A332, at2_333, tk2_334, fk2_335, rfl, rfl, hW336, hF337, e338, e339, e340, p341, p342, q343⟩ := hq
    have hF344 := Fr_tr hFx hF337 (Fr_sub (by decide)) (Fr_sub (by decide))
    have hP345 := Pf_f hPx hF337 (by decide)
    have hS346 := Fx_f hSx hF337 (by decide)
    have hV347 := Fx_f hVx hF337 (by decide)
    have sf348 : ND A332 (n) (27) (sa1) (0) (exc) (0) (0) (0) := ND_ag (by omega) (Ag_fr hF337 (by decide)) iv_11
    have sf349 : wE A332 Vs sb (20) (exc) (n + 1) (nd1) := wE_ag (by omega) (Sg_fr hF337 (by decide)) (Ag_fr hF337 (by decide)) iv_12
    have ec350 : ecn A332 (G331 31) = ec1 := (ecn_f (hF337.2 15 rfl) (hF337.1 31 rfl)).trans ex_ec1
    have bat2_333 : (0 : Int) ≤ at2_333 ∧ at2_333 ≤ 3002 := e338 ▸ hW336.1 10
    have ztk2_334 := tz_b tk2_334
    have btk2_334 : (0 : Int) ≤ tk2_334 ∧ tk2_334 ≤ 5 := e339 ▸ hW336.1 11
    have bfk2_335 : (0 : Int) ≤ fk2_335 ∧ fk2_335 ≤ 6 := e340 ▸ hW336.1 16
    refine .inl ⟨rfl, ?_⟩
    rcases q343 with ⟨a351, a352, a353, a354⟩ | ⟨a355, a356, a357, a358⟩
    · have _q : True := trivial
      have z359 := tz_f (tk2_334)
      exact c_readSeq_w_at_116p (X := X) (k := k) (hP := hP) (d := d) (Vs := Vs) (sb := sb) (pb := pb) (hvb := hvb) (c0 := c0) (c1 := c1) (G := G) (A := A) (T := T) (lv := lv) (ln := ln) (li := li) (at0 := at0) (fk := fk) (nd := nd) (sy := sy) (na := na) (vi := vi) (le := le) (op0 := op0) (tk0 := tk0) (ec := ec) (hd := hd) (hW := hW) (e_ln := e_ln) (e_li := e_li) (e_at0 := e_at0) (e_fk := e_fk) (e_nd := e_nd) (e_sy := e_sy) (e_na := e_na) (e_vi := e_vi) (e_le := e_le) (e_op0 := e_op0) (e_tk0 := e_tk0) (e_ec := e_ec) (i_LT := i_LT) (i_SV := i_SV) (i_PQ := i_PQ) (h_lv := h_lv) (p_0 := p_0) (p_1 := p_1) (p_2 := p_2) (p_3 := p_3) (p_4 := p_4) (p_5 := p_5) (p_6 := p_6) (p_7 := p_7) (p_8 := p_8) (p_9 := p_9) (p_10 := p_10) L G331 A332 (n) (at2_333) (tk2_334) (fk2_335) (nd1) (op1) (sy1) (na1) (ec1) gL_0 gL_1 gL_2 hW336 hF344 hP345 hS346 hV347 ((e338)) ((e339)) ((e340)) (((hF337.1 31 rfl).trans (ex_nd1))) (((hF337.1 15 rfl).trans (ex_op1))) (((hF337.1 19 rfl).trans (ex_sy1))) (((hF337.1 28 rfl).trans (ex_na1))) (ec350) (((hF337.1 9 rfl).trans (fx_9))) (((hF337.1 29 rfl).trans (fx_29))) (by omega) (by omega) (by omega) (by omega) (by omega) (by omega) (by omega) (by omega) (by omega)
    · have _q : True := trivial
      exfalso
      omega
set_option maxRecDepth 20000 in
set_option maxHeartbeats 4000000 in
theorem c_readSeq_w_at_96p {X : jX} {k : Nat} (hP : RPw X k) {d : Nat} {Vs : Nat → Prop} {sb pb : Int} (hvb : VB Vs sb) {c0 c1 : jC} {G : Nat → Int} {A : Nat → Nat → Int} {T : jH} {lv : Int} {ln li at0 fk nd sy na vi le op0 tk0 ec : Int} (hd : 8 * k + 82 ≤ d + 1) (hW : Wk G A) (e_ln : G 9 = ln) (e_li : G 3 = li) (e_at0 : G 10 = at0) (e_fk : G 16 = fk) (e_nd : G 31 = nd) (e_sy : G 19 = sy) (e_na : G 28 = na) (e_vi : G 29 = vi) (e_le : A 4 (ln).toNat = le) (e_op0 : G 15 = op0) (e_tk0 : G 11 = tk0) (e_ec : ecn A (G 31) = ec) (i_LT : LT G A) (i_SV : SV Vs sb G A) (i_PQ : PQ Vs sb pb G A) (h_lv : (-2147483648 : Int) ≤ lv ∧ lv ≤ 2147483647) (p_0 : 0 ≤ lv ∧ lv ≤ 15) (p_1 : 18 - lv ≤ ((k + 1 : Nat) : Int)) (p_2 : fk = 0) (p_3 : ln < li) (p_4 : at0 ≤ le) (p_5 : op0 = 0) (p_6 : nd ≤ 2 * at0 - tz tk0 + 30) (p_7 : sy ≤ na + 2) (p_8 : vi ≤ sy) (p_9 : sb = sy) (p_10 : 1 ≤ tk0) : ∀ (L : jL) (Gx : Nat → Int) (Ax : Nat → Nat → Int) (n at1 tk1 fk1 nd1 op1 sy1 na1 ec1 : Int), jGet L 0 = some (.ref 66) → jGet L 1 = some (.int (i32 (lv))) → jGet L 2 = some (.int (i32 n)) → Wk Gx Ax → Fr [9, 10, 11, 12, 13, 14, 15, 16, 17, 18, 19, 28, 29, 31] [6, 7, 8, 9, 10, 11, 12, 14, 15, 16, 17, 18, 19, 20, 21, 22, 23, 24, 28] G A Gx Ax → Pf nd A Ax → Fx sr (sy) A Ax → Fx [14] (vi) A Ax → Gx 10 = at1 → Gx 11 = tk1 → Gx 16 = fk1 → Gx 31 = nd1 → Gx 15 = op1 → Gx 19 = sy1 → Gx 28 = na1 → ecn Ax (Gx 31) = ec1 → Gx 9 = ln → Gx 29 = vi → ((-2147483648 : Int) ≤ n ∧ n ≤ 2147483647) → (1 ≤ fk1) → (at0 ≤ at1) → (at1 ≤ le) → (nd ≤ n ∧ n ≤ 6998 ∧ n < nd1) → (sy ≤ sy1) → (sy1 ≤ na1 + 2) → (0 ≤ op1 ∧ op1 ≤ 9) → (nd1 - nd ≤ 2 * at1 - 2 * at0 + 8) → wj X d jm297 (96, L, [], rV c0 c1 Gx Ax T) (fun o V' => ∃ (G' : Nat → Int) (A' : Nat → Nat → Int) (r : Int) (ln2 : Int) (at2 : Int) (fk2 : Int) (nd2 : Int) (sy2 : Int) (na2 : Int) (vi2 : Int) (lf2 : Int) (ec2 : Int), V' = rV c0 c1 G' A' T ∧ o = .inl (some (.int (i32 r))) ∧ Wk G' A' ∧ Fr [9, 10, 11, 12, 13, 14, 15, 16, 17, 18, 19, 28, 29, 31] [6, 7, 8, 9, 10, 11, 12, 14, 15, 16, 17, 18, 19, 20, 21, 22, 23, 24, 28] G A G' A' ∧ Pf nd A A' ∧ Fx sr (sy) A A' ∧ Fx [14] (vi) A A' ∧ ((-2147483648 : Int) ≤ r ∧ r ≤ 2147483647) ∧ G' 9 = ln2 ∧ G' 10 = at2 ∧ G' 16 = fk2 ∧ G' 31 = nd2 ∧ G' 19 = sy2 ∧ G' 28 = na2 ∧ G' 29 = vi2 ∧ A' 3 (ln2).toNat = lf2 ∧ ecn A' (G' 31) = ec2 ∧ (at0 ≤ at2) ∧ (nd ≤ nd2) ∧ (sy ≤ sy2) ∧ (sy2 ≤ na2 + 2) ∧ (vi ≤ vi2) ∧ (vi2 ≤ vi + 1) ∧ (0 ≤ r) ∧ (r ≤ 6999) ∧ (ln ≤ ln2) ∧ (ln2 ≤ li) ∧ (((1 ≤ fk2) ∧ (nd2 - nd ≤ 2 * at2 - (2 * at0 - tz tk0) + 14)) ∨ ((fk2 = 0) ∧ (vi2 = vi) ∧ (ln < ln2) ∧ (nd2 - nd ≤ 2 * at2 - (2 * at0 - tz tk0)) ∧ (at2 < lf2 ∨ li ≤ ln2) ∧ (nd ≤ r) ∧ (r < nd2) ∧ (wSt A' (sy2) pb (wP A' (sy2) pb (k)) (Vs) (r) (nd) (nd2) (sy) (sy2)) ∧ (NX A' (r)) ∧ (nd2 - nd + 5 * (ec2 - ec) ≤ 2 * at2 - (2 * at0 - tz tk0))))) := by
  have hF0 : Fr [9, 10, 11, 12, 13, 14, 15, 16, 17, 18, 19, 28, 29, 31] [6, 7, 8, 9, 10, 11, 12, 14, 15, 16, 17, 18, 19, 20, 21, 22, 23, 24, 28] G A G A := Fr_rf
  have hP0 : Pf nd A A := Pf_rf
  have hS0 : Fx sr (sy) A A := Fx_rf
  have hV0 : Fx [14] (vi) A A := Fx_rf
  have b_ln : (0 : Int) ≤ ln ∧ ln ≤ 3000 := e_ln ▸ hW.1 9
  have b_li : (0 : Int) ≤ li ∧ li ≤ 3000 := e_li ▸ hW.1 3
  have b_at0 : (0 : Int) ≤ at0 ∧ at0 ≤ 3002 := e_at0 ▸ hW.1 10
  have b_fk : (0 : Int) ≤ fk ∧ fk ≤ 6 := e_fk ▸ hW.1 16
  have b_nd : (0 : Int) ≤ nd ∧ nd ≤ 6999 := e_nd ▸ hW.1 31
  have b_sy : (0 : Int) ≤ sy ∧ sy ≤ 202 := e_sy ▸ hW.1 19
  have b_na : (0 : Int) ≤ na ∧ na ≤ 200 := e_na ▸ hW.1 28
  have b_vi : (0 : Int) ≤ vi ∧ vi ≤ 202 := e_vi ▸ hW.1 29
  have b_le : (0 : Int) ≤ le ∧ le ≤ 3000 := e_le ▸ hW.2 4 _
  have b_op0 : (-2147483648 : Int) ≤ op0 ∧ op0 ≤ 2147483647 := e_op0 ▸ hW.1 15
  have z_tk0 := tz_f tk0
  have b_tk0 : (0 : Int) ≤ tk0 ∧ tk0 ≤ 5 := e_tk0 ▸ hW.1 11
  intro L Gx Ax n at1 tk1 fk1 nd1 op1 sy1 na1 ec1 gL_0 gL_1 gL_2 hWx hFx hPx hSx hVx ex_at1 ex_tk1 ex_fk1 ex_nd1 ex_op1 ex_sy1 ex_na1 ex_ec1 fx_9 fx_29 rx_n iv_0 iv_1 iv_2 iv_3 iv_4 iv_5 iv_6 iv_7
  have b_at1 : (0 : Int) ≤ at1 ∧ at1 ≤ 3002 := ex_at1 ▸ hWx.1 10
  have z_tk1 := tz_f tk1
  have b_tk1 : (0 : Int) ≤ tk1 ∧ tk1 ≤ 5 := ex_tk1 ▸ hWx.1 11
  have b_fk1 : (0 : Int) ≤ fk1 ∧ fk1 ≤ 6 := ex_fk1 ▸ hWx.1 16
  have b_nd1 : (0 : Int) ≤ nd1 ∧ nd1 ≤ 6999 := ex_nd1 ▸ hWx.1 31
  have b_op1 : (-2147483648 : Int) ≤ op1 ∧ op1 ≤ 2147483647 := ex_op1 ▸ hWx.1 15
  have b_sy1 : (0 : Int) ≤ sy1 ∧ sy1 ≤ 202 := ex_sy1 ▸ hWx.1 19
  have b_na1 : (0 : Int) ≤ na1 ∧ na1 ≤ 200 := ex_na1 ▸ hWx.1 28
  refine jx_ld (pc' := 97) (l' := L) (st' := [.ref 66]) rfl (jl_aloadn gL_0) ?_
  refine jr_get (pc' := 100) (i := 36) (v := .ref 86) rfl rfl (by decide) rfl rfl ?_
  refine jx_ld (pc' := 101) (l' := L) (st' := [.int (i32 (n)), .ref 86]) rfl (jl_iloadn gL_2) ?_
  refine jx_ld (pc' := 102) (l' := L) (st' := [.ref 66, .int (i32 (n)), .ref 86]) rfl (jl_aloadn gL_0) ?_
  refine jx_vr (pc' := 105) (as := []) (st := [.int (i32 (n)), .ref 86]) rfl rfl rfl rfl ⟨rfl, rfl, Nat.le_of_ble_eq_true rfl⟩ rfl rfl (REw_all X 9 (dd := d) (hd := by omega) (hW := hWx)  (ln := ln) (e_ln := show Gx 9 = ln from (fx_9)) (le := le) (e_le := show Ax 4 (ln).toNat = le from (congrFun (hFx.2 4 rfl) _).trans (e_le)) (at0 := at1) (e_at0 := show Gx 10 = at1 from (ex_at1)) (fk := fk1) (e_fk := show Gx 16 = fk1 from (ex_fk1)) (op0 := op1) (e_op0 := show Gx 15 = op1 from (ex_op1)) (nd := nd1) (e_nd := show Gx 31 = nd1 from (ex_nd1)) (tk0 := tk1) (e_tk0 := show Gx 11 = tk1 from (ex_tk1)) (ec := ec1) (e_ec := show ecn Ax (Gx 31) = ec1 from ex_ec1) (i_SV := (SV_fx i_SV e_vi (show Gx 29 = vi from (fx_29)) (by omega) hVx))   (p_0 := by omega) (p_1 := by omega) (p_2 := by omega) (p_3 := by omega) (p_4 := by omega) (p_5 := by omega)) (fun o V' hq => ?_)
  obtain ⟨G360, A361, r362, at2_363, fk2_364, op2_365, nd2_366, tk2_367, ec2_368, rfl, rfl, hW369, hF370, hQ371, b372, e373, e374, e375, e376, e377, e378, p379, p380, p381, p382, p383, p384, q385⟩ := hq
  have hF386 := Fr_tr hFx hF370 (Fr_sub (by decide)) (Fr_sub (by decide))
  have hP387 := Pf_tr hPx hQ371 (by omega)
  have hS388 := Fx_f hSx hF370 (by decide)
  have hV389 := Fx_f hVx hF370 (by decide)
  have bat2_363 : (0 : Int) ≤ at2_363 ∧ at2_363 ≤ 3002 := e373 ▸ hW369.1 10
  have bfk2_364 : (0 : Int) ≤ fk2_364 ∧ fk2_364 ≤ 6 := e374 ▸ hW369.1 16
  have bop2_365 : (-2147483648 : Int) ≤ op2_365 ∧ op2_365 ≤ 2147483647 := e375 ▸ hW369.1 15
  have bnd2_366 : (0 : Int) ≤ nd2_366 ∧ nd2_366 ≤ 6999 := e376 ▸ hW369.1 31
  have ztk2_367 := tz_b tk2_367
  have btk2_367 : (0 : Int) ≤ tk2_367 ∧ tk2_367 ≤ 5 := e377 ▸ hW369.1 11
  refine .inr ⟨_, rfl, ?_⟩
  rcases q385 with ⟨a390, a391, a392, a393, a394, a395⟩ | ⟨a396, a397, a398⟩ | ⟨a399, a400, a401, a402, a403, a404⟩
  · have _q : True := trivial
    refine jr_st (pc' := 106) (i := 19) (m := 7000) (z := n) (y := r362) rfl (by decide) rfl (by decide) (by omega) (by omega) rfl ?_
    have hW406 : Wk G360 (uA A361 19 (n).toNat (r362)) := Wk_a hW369 (show (-2147483648 : Int) ≤ r362 by omega) (show r362 ≤ (2147483647 : Int) by omega)
    have hF407 := Fr_a (z := r362) (k := 19) (n := (n).toNat) hF386 (by decide)
    obtain ⟨A405, eA405⟩ : ∃ q, q = uA A361 19 (n).toNat (r362) := ⟨_, rfl⟩
    rw [← eA405]
    rw [← eA405] at hW406 hF407
    have q408 : A405 19 (n).toNat = r362 := by rw [eA405]; exact uA_eq
    have hP409 : Pf nd A A405 := eA405 ▸ Pf_a hP387 (z := n) (by omega) (by omega)
    have hS410 : Fx sr (sy) A A405 := eA405 ▸ Fx_n hS388 rfl
    have hV411 : Fx [14] (vi) A A405 := eA405 ▸ Fx_n hV389 rfl
    have ec412 : ecn A405 (G360 31) = ec2_368 := (ecn_e ((congrFun eA405 15).trans (uA_ne (by decide)))).trans e378
    have z413 := tz_f (tk2_367)
    exact c_readSeq_w_at_106p (X := X) (k := k) (hP := hP) (d := d) (Vs := Vs) (sb := sb) (pb := pb) (hvb := hvb) (c0 := c0) (c1 := c1) (G := G) (A := A) (T := T) (lv := lv) (ln := ln) (li := li) (at0 := at0) (fk := fk) (nd := nd) (sy := sy) (na := na) (vi := vi) (le := le) (op0 := op0) (tk0 := tk0) (ec := ec) (hd := hd) (hW := hW) (e_ln := e_ln) (e_li := e_li) (e_at0 := e_at0) (e_fk := e_fk) (e_nd := e_nd) (e_sy := e_sy) (e_na := e_na) (e_vi := e_vi) (e_le := e_le) (e_op0 := e_op0) (e_tk0 := e_tk0) (e_ec := e_ec) (i_LT := i_LT) (i_SV := i_SV) (i_PQ := i_PQ) (h_lv := h_lv) (p_0 := p_0) (p_1 := p_1) (p_2 := p_2) (p_3 := p_3) (p_4 := p_4) (p_5 := p_5) (p_6 := p_6) (p_7 := p_7) (p_8 := p_8) (p_9 := p_9) (p_10 := p_10) L G360 A405 (n) (at2_363) (tk2_367) (fk2_364) (nd2_366) (op2_365) (sy1) (na1) (ec2_368) gL_0 gL_1 gL_2 hW406 hF407 hP409 hS410 hV411 ((e373)) ((e377)) ((e374)) ((e376)) ((e375)) (((hF370.1 19 rfl).trans (ex_sy1))) (((hF370.1 28 rfl).trans (ex_na1))) (ec412) (((hF370.1 9 rfl).trans (fx_9))) (((hF370.1 29 rfl).trans (fx_29))) (by omega) (by omega) (by omega) (by omega) (by omega) (by omega) (by omega) (by omega) (by omega)
  · have _q : True := trivial
    exfalso
    omega
  · have _q : True := trivial
    exfalso
    omega
set_option maxRecDepth 20000 in
set_option maxHeartbeats 4000000 in
theorem c_readSeq_w_at_96 {X : jX} {k : Nat} (hP : RPw X k) {d : Nat} {Vs : Nat → Prop} {sb pb : Int} (hvb : VB Vs sb) {c0 c1 : jC} {G : Nat → Int} {A : Nat → Nat → Int} {T : jH} {lv : Int} {ln li at0 fk nd sy na vi le op0 tk0 ec : Int} (hd : 8 * k + 82 ≤ d + 1) (hW : Wk G A) (e_ln : G 9 = ln) (e_li : G 3 = li) (e_at0 : G 10 = at0) (e_fk : G 16 = fk) (e_nd : G 31 = nd) (e_sy : G 19 = sy) (e_na : G 28 = na) (e_vi : G 29 = vi) (e_le : A 4 (ln).toNat = le) (e_op0 : G 15 = op0) (e_tk0 : G 11 = tk0) (e_ec : ecn A (G 31) = ec) (i_LT : LT G A) (i_SV : SV Vs sb G A) (i_PQ : PQ Vs sb pb G A) (h_lv : (-2147483648 : Int) ≤ lv ∧ lv ≤ 2147483647) (p_0 : 0 ≤ lv ∧ lv ≤ 15) (p_1 : 18 - lv ≤ ((k + 1 : Nat) : Int)) (p_2 : fk = 0) (p_3 : ln < li) (p_4 : at0 ≤ le) (p_5 : op0 = 0) (p_6 : nd ≤ 2 * at0 - tz tk0 + 30) (p_7 : sy ≤ na + 2) (p_8 : vi ≤ sy) (p_9 : sb = sy) (p_10 : 1 ≤ tk0) : ∀ (L : jL) (Gx : Nat → Int) (Ax : Nat → Nat → Int) (n at1 tk1 fk1 nd1 op1 sy1 na1 sa1 ka1 ec1 : Int), jGet L 0 = some (.ref 66) → jGet L 1 = some (.int (i32 (lv))) → jGet L 2 = some (.int (i32 n)) → Wk Gx Ax → Fr [9, 10, 11, 12, 13, 14, 15, 16, 17, 18, 19, 28, 29, 31] [6, 7, 8, 9, 10, 11, 12, 14, 15, 16, 17, 18, 19, 20, 21, 22, 23, 24, 28] G A Gx Ax → Pf nd A Ax → Fx sr (sy) A Ax → Fx [14] (vi) A Ax → Gx 10 = at1 → Gx 11 = tk1 → Gx 16 = fk1 → Gx 31 = nd1 → Gx 15 = op1 → Gx 19 = sy1 → Gx 28 = na1 → Ax 17 (n).toNat = sa1 → Ax 7 (sa1).toNat = ka1 → ecn Ax (Gx 31) = ec1 → Gx 9 = ln → Gx 29 = vi → ((-2147483648 : Int) ≤ n ∧ n ≤ 2147483647) → (fk1 = 0) → (at0 ≤ at1) → (at1 ≤ le) → (n = nd) → (n ≤ 6998 ∧ n < nd1) → (sy1 = sy + 1) → (sa1 = sy) → (sy1 ≤ na1 + 2) → (op1 = 0) → (nd1 - nd ≤ (2 * at1 - tz tk1) - (2 * at0 - tz tk0)) → (ka1 = 9) → (nd1 = n + 1) → (ND Ax (n) (27) (sa1) (0) (0) (0) (0) (0)) → (nd1 - nd + 5 * (ec1 - ec) ≤ (2 * at1 - tz tk1) - (2 * at0 - tz tk0)) → wj X d jm297 (96, L, [], rV c0 c1 Gx Ax T) (fun o V' => ∃ (G' : Nat → Int) (A' : Nat → Nat → Int) (r : Int) (ln2 : Int) (at2 : Int) (fk2 : Int) (nd2 : Int) (sy2 : Int) (na2 : Int) (vi2 : Int) (lf2 : Int) (ec2 : Int), V' = rV c0 c1 G' A' T ∧ o = .inl (some (.int (i32 r))) ∧ Wk G' A' ∧ Fr [9, 10, 11, 12, 13, 14, 15, 16, 17, 18, 19, 28, 29, 31] [6, 7, 8, 9, 10, 11, 12, 14, 15, 16, 17, 18, 19, 20, 21, 22, 23, 24, 28] G A G' A' ∧ Pf nd A A' ∧ Fx sr (sy) A A' ∧ Fx [14] (vi) A A' ∧ ((-2147483648 : Int) ≤ r ∧ r ≤ 2147483647) ∧ G' 9 = ln2 ∧ G' 10 = at2 ∧ G' 16 = fk2 ∧ G' 31 = nd2 ∧ G' 19 = sy2 ∧ G' 28 = na2 ∧ G' 29 = vi2 ∧ A' 3 (ln2).toNat = lf2 ∧ ecn A' (G' 31) = ec2 ∧ (at0 ≤ at2) ∧ (nd ≤ nd2) ∧ (sy ≤ sy2) ∧ (sy2 ≤ na2 + 2) ∧ (vi ≤ vi2) ∧ (vi2 ≤ vi + 1) ∧ (0 ≤ r) ∧ (r ≤ 6999) ∧ (ln ≤ ln2) ∧ (ln2 ≤ li) ∧ (((1 ≤ fk2) ∧ (nd2 - nd ≤ 2 * at2 - (2 * at0 - tz tk0) + 14)) ∨ ((fk2 = 0) ∧ (vi2 = vi) ∧ (ln < ln2) ∧ (nd2 - nd ≤ 2 * at2 - (2 * at0 - tz tk0)) ∧ (at2 < lf2 ∨ li ≤ ln2) ∧ (nd ≤ r) ∧ (r < nd2) ∧ (wSt A' (sy2) pb (wP A' (sy2) pb (k)) (Vs) (r) (nd) (nd2) (sy) (sy2)) ∧ (NX A' (r)) ∧ (nd2 - nd + 5 * (ec2 - ec) ≤ 2 * at2 - (2 * at0 - tz tk0))))) := by
  have hF0 : Fr [9, 10, 11, 12, 13, 14, 15, 16, 17, 18, 19, 28, 29, 31] [6, 7, 8, 9, 10, 11, 12, 14, 15, 16, 17, 18, 19, 20, 21, 22, 23, 24, 28] G A G A := Fr_rf
  have hP0 : Pf nd A A := Pf_rf
  have hS0 : Fx sr (sy) A A := Fx_rf
  have hV0 : Fx [14] (vi) A A := Fx_rf
  have b_ln : (0 : Int) ≤ ln ∧ ln ≤ 3000 := e_ln ▸ hW.1 9
  have b_li : (0 : Int) ≤ li ∧ li ≤ 3000 := e_li ▸ hW.1 3
  have b_at0 : (0 : Int) ≤ at0 ∧ at0 ≤ 3002 := e_at0 ▸ hW.1 10
  have b_fk : (0 : Int) ≤ fk ∧ fk ≤ 6 := e_fk ▸ hW.1 16
  have b_nd : (0 : Int) ≤ nd ∧ nd ≤ 6999 := e_nd ▸ hW.1 31
  have b_sy : (0 : Int) ≤ sy ∧ sy ≤ 202 := e_sy ▸ hW.1 19
  have b_na : (0 : Int) ≤ na ∧ na ≤ 200 := e_na ▸ hW.1 28
  have b_vi : (0 : Int) ≤ vi ∧ vi ≤ 202 := e_vi ▸ hW.1 29
  have b_le : (0 : Int) ≤ le ∧ le ≤ 3000 := e_le ▸ hW.2 4 _
  have b_op0 : (-2147483648 : Int) ≤ op0 ∧ op0 ≤ 2147483647 := e_op0 ▸ hW.1 15
  have z_tk0 := tz_f tk0
  have b_tk0 : (0 : Int) ≤ tk0 ∧ tk0 ≤ 5 := e_tk0 ▸ hW.1 11
  intro L Gx Ax n at1 tk1 fk1 nd1 op1 sy1 na1 sa1 ka1 ec1 gL_0 gL_1 gL_2 hWx hFx hPx hSx hVx ex_at1 ex_tk1 ex_fk1 ex_nd1 ex_op1 ex_sy1 ex_na1 ex_sa1 ex_ka1 ex_ec1 fx_9 fx_29 rx_n iv_0 iv_1 iv_2 iv_3 iv_4 iv_5 iv_6 iv_7 iv_8 iv_9 iv_10 iv_11 iv_12 iv_13
  have b_at1 : (0 : Int) ≤ at1 ∧ at1 ≤ 3002 := ex_at1 ▸ hWx.1 10
  have z_tk1 := tz_f tk1
  have b_tk1 : (0 : Int) ≤ tk1 ∧ tk1 ≤ 5 := ex_tk1 ▸ hWx.1 11
  have b_fk1 : (0 : Int) ≤ fk1 ∧ fk1 ≤ 6 := ex_fk1 ▸ hWx.1 16
  have b_nd1 : (0 : Int) ≤ nd1 ∧ nd1 ≤ 6999 := ex_nd1 ▸ hWx.1 31
  have b_op1 : (-2147483648 : Int) ≤ op1 ∧ op1 ≤ 2147483647 := ex_op1 ▸ hWx.1 15
  have b_sy1 : (0 : Int) ≤ sy1 ∧ sy1 ≤ 202 := ex_sy1 ▸ hWx.1 19
  have b_na1 : (0 : Int) ≤ na1 ∧ na1 ≤ 200 := ex_na1 ▸ hWx.1 28
  refine jx_ld (pc' := 97) (l' := L) (st' := [.ref 66]) rfl (jl_aloadn gL_0) ?_
  refine jr_get (pc' := 100) (i := 36) (v := .ref 86) rfl rfl (by decide) rfl rfl ?_
  refine jx_ld (pc' := 101) (l' := L) (st' := [.int (i32 (n)), .ref 86]) rfl (jl_iloadn gL_2) ?_
  refine jx_ld (pc' := 102) (l' := L) (st' := [.ref 66, .int (i32 (n)), .ref 86]) rfl (jl_aloadn gL_0) ?_
  refine jx_vr (pc' := 105) (as := []) (st := [.int (i32 (n)), .ref 86]) rfl rfl rfl rfl ⟨rfl, rfl, Nat.le_of_ble_eq_true rfl⟩ rfl rfl (REw_all X 9 (dd := d) (hd := by omega) (hW := hWx)  (ln := ln) (e_ln := show Gx 9 = ln from (fx_9)) (le := le) (e_le := show Ax 4 (ln).toNat = le from (congrFun (hFx.2 4 rfl) _).trans (e_le)) (at0 := at1) (e_at0 := show Gx 10 = at1 from (ex_at1)) (fk := fk1) (e_fk := show Gx 16 = fk1 from (ex_fk1)) (op0 := op1) (e_op0 := show Gx 15 = op1 from (ex_op1)) (nd := nd1) (e_nd := show Gx 31 = nd1 from (ex_nd1)) (tk0 := tk1) (e_tk0 := show Gx 11 = tk1 from (ex_tk1)) (ec := ec1) (e_ec := show ecn Ax (Gx 31) = ec1 from ex_ec1) (i_SV := (SV_fx i_SV e_vi (show Gx 29 = vi from (fx_29)) (by omega) hVx))   (p_0 := by omega) (p_1 := by omega) (p_2 := by omega) (p_3 := by omega) (p_4 := by omega) (p_5 := by omega)) (fun o V' hq => ?_)
  obtain ⟨G414, A415, r416, at2_417, fk2_418, op2_419, nd2_420, tk2_421, ec2_422, rfl, rfl, hW423, hF424, hQ425, b426, e427, e428, e429, e430, e431, e432, p433, p434, p435, p436, p437, p438, q439⟩ := hq
  have hF440 := Fr_tr hFx hF424 (Fr_sub (by decide)) (Fr_sub (by decide))
  have k441 : A415 17 (n).toNat = sa1 := (hQ425 17 _ rfl (by omega)).trans (show Ax 17 (n).toNat = sa1 from (ex_sa1))
  have hP442 := Pf_tr hPx hQ425 (by omega)
  have hS443 := Fx_f hSx hF424 (by decide)
  have hV444 := Fx_f hVx hF424 (by decide)
  have sf445 : ND A415 (n) (27) (sa1) (0) (0) (0) (0) (0) := ND_ag (by omega) (Ag_pf hQ425 (by omega)) iv_12
  have bat2_417 : (0 : Int) ≤ at2_417 ∧ at2_417 ≤ 3002 := e427 ▸ hW423.1 10
  have bfk2_418 : (0 : Int) ≤ fk2_418 ∧ fk2_418 ≤ 6 := e428 ▸ hW423.1 16
  have bop2_419 : (-2147483648 : Int) ≤ op2_419 ∧ op2_419 ≤ 2147483647 := e429 ▸ hW423.1 15
  have bnd2_420 : (0 : Int) ≤ nd2_420 ∧ nd2_420 ≤ 6999 := e430 ▸ hW423.1 31
  have ztk2_421 := tz_b tk2_421
  have btk2_421 : (0 : Int) ≤ tk2_421 ∧ tk2_421 ≤ 5 := e431 ▸ hW423.1 11
  refine .inr ⟨_, rfl, ?_⟩
  rcases q439 with ⟨a446, a447, a448, a449, a450, a451⟩ | ⟨a452, a453, a454⟩ | ⟨a455, a456, a457, a458, a459, a460⟩
  · have _q : True := trivial
    exfalso
    omega
  · have _q : True := trivial
    refine jr_st (pc' := 106) (i := 19) (m := 7000) (z := n) (y := r416) rfl (by decide) rfl (by decide) (by omega) (by omega) rfl ?_
    have hW462 : Wk G414 (uA A415 19 (n).toNat (r416)) := Wk_a hW423 (show (-2147483648 : Int) ≤ r416 by omega) (show r416 ≤ (2147483647 : Int) by omega)
    have hF463 := Fr_a (z := r416) (k := 19) (n := (n).toNat) hF440 (by decide)
    obtain ⟨A461, eA461⟩ : ∃ q, q = uA A415 19 (n).toNat (r416) := ⟨_, rfl⟩
    rw [← eA461]
    rw [← eA461] at hW462 hF463
    have q464 : A461 19 (n).toNat = r416 := by rw [eA461]; exact uA_eq
    have hP465 : Pf nd A A461 := eA461 ▸ Pf_a hP442 (z := n) (by omega) (by omega)
    have hS466 : Fx sr (sy) A A461 := eA461 ▸ Fx_n hS443 rfl
    have hV467 : Fx [14] (vi) A A461 := eA461 ▸ Fx_n hV444 rfl
    have sf468 : ND A461 (n) (27) (sa1) (0) (r416) (0) (0) (0) := ND_c eA461 sf445
    have ec469 : ecn A461 (G414 31) = ec2_422 := (ecn_e ((congrFun eA461 15).trans (uA_ne (by decide)))).trans e432
    have z470 := tz_f (tk2_421)
    exact c_readSeq_w_at_106p (X := X) (k := k) (hP := hP) (d := d) (Vs := Vs) (sb := sb) (pb := pb) (hvb := hvb) (c0 := c0) (c1 := c1) (G := G) (A := A) (T := T) (lv := lv) (ln := ln) (li := li) (at0 := at0) (fk := fk) (nd := nd) (sy := sy) (na := na) (vi := vi) (le := le) (op0 := op0) (tk0 := tk0) (ec := ec) (hd := hd) (hW := hW) (e_ln := e_ln) (e_li := e_li) (e_at0 := e_at0) (e_fk := e_fk) (e_nd := e_nd) (e_sy := e_sy) (e_na := e_na) (e_vi := e_vi) (e_le := e_le) (e_op0 := e_op0) (e_tk0 := e_tk0) (e_ec := e_ec) (i_LT := i_LT) (i_SV := i_SV) (i_PQ := i_PQ) (h_lv := h_lv) (p_0 := p_0) (p_1 := p_1) (p_2 := p_2) (p_3 := p_3) (p_4 := p_4) (p_5 := p_5) (p_6 := p_6) (p_7 := p_7) (p_8 := p_8) (p_9 := p_9) (p_10 := p_10) L G414 A461 (n) (at2_417) (tk2_421) (fk2_418) (nd2_420) (op2_419) (sy1) (na1) (ec2_422) gL_0 gL_1 gL_2 hW462 hF463 hP465 hS466 hV467 ((e427)) ((e431)) ((e428)) ((e430)) ((e429)) (((hF424.1 19 rfl).trans (ex_sy1))) (((hF424.1 28 rfl).trans (ex_na1))) (ec469) (((hF424.1 9 rfl).trans (fx_9))) (((hF424.1 29 rfl).trans (fx_29))) (by omega) (by omega) (by omega) (by omega) (by omega) (by omega) (by omega) (by omega) (by omega)
  · have _q : True := trivial
    refine jr_st (pc' := 106) (i := 19) (m := 7000) (z := n) (y := r416) rfl (by decide) rfl (by decide) (by omega) (by omega) rfl ?_
    have hW472 : Wk G414 (uA A415 19 (n).toNat (r416)) := Wk_a hW423 (show (-2147483648 : Int) ≤ r416 by omega) (show r416 ≤ (2147483647 : Int) by omega)
    have hF473 := Fr_a (z := r416) (k := 19) (n := (n).toNat) hF440 (by decide)
    obtain ⟨A471, eA471⟩ : ∃ q, q = uA A415 19 (n).toNat (r416) := ⟨_, rfl⟩
    rw [← eA471]
    rw [← eA471] at hW472 hF473
    have q474 : A471 19 (n).toNat = r416 := by rw [eA471]; exact uA_eq
    have hP475 : Pf nd A A471 := eA471 ▸ Pf_a hP442 (z := n) (by omega) (by omega)
    have hS476 : Fx sr (sy) A A471 := eA471 ▸ Fx_n hS443 rfl
    have hV477 : Fx [14] (vi) A A471 := eA471 ▸ Fx_n hV444 rfl
    have sf478 : ND A471 (n) (27) (sa1) (0) (r416) (0) (0) (0) := ND_c eA471 sf445
    have sf479 : wE A471 Vs sb (2 * 9 + 2) (r416) (nd1) (nd2_420) := wE_ag (by omega) (Sg_ne eA471 rfl) (Ag_st eA471 (by omega) (by omega)) a458
    have ec480 : ecn A471 (G414 31) = ec2_422 := (ecn_e ((congrFun eA471 15).trans (uA_ne (by decide)))).trans e432
    have z481 := tz_f (tk2_421)
    exact c_readSeq_w_at_106 (X := X) (k := k) (hP := hP) (d := d) (Vs := Vs) (sb := sb) (pb := pb) (hvb := hvb) (c0 := c0) (c1 := c1) (G := G) (A := A) (T := T) (lv := lv) (ln := ln) (li := li) (at0 := at0) (fk := fk) (nd := nd) (sy := sy) (na := na) (vi := vi) (le := le) (op0 := op0) (tk0 := tk0) (ec := ec) (hd := hd) (hW := hW) (e_ln := e_ln) (e_li := e_li) (e_at0 := e_at0) (e_fk := e_fk) (e_nd := e_nd) (e_sy := e_sy) (e_na := e_na) (e_vi := e_vi) (e_le := e_le) (e_op0 := e_op0) (e_tk0 := e_tk0) (e_ec := e_ec) (i_LT := i_LT) (i_SV := i_SV) (i_PQ := i_PQ) (h_lv := h_lv) (p_0 := p_0) (p_1 := p_1) (p_2 := p_2) (p_3 := p_3) (p_4 := p_4) (p_5 := p_5) (p_6 := p_6) (p_7 := p_7) (p_8 := p_8) (p_9 := p_9) (p_10 := p_10) L G414 A471 (n) (at2_417) (tk2_421) (fk2_418) (nd2_420) (op2_419) (sy1) (na1) (sa1) (ka1) (r416) (ec2_422) gL_0 gL_1 gL_2 hW472 hF473 hP475 hS476 hV477 ((e427)) ((e431)) ((e428)) ((e430)) ((e429)) (((hF424.1 19 rfl).trans (ex_sy1))) (((hF424.1 28 rfl).trans (ex_na1))) ((congrFun ((congrFun eA471 17).trans (uA_ne (by decide))) _).trans (k441)) ((congrFun (((congrFun eA471 7).trans (uA_ne (by decide))).trans (hF424.2 7 rfl)) _).trans (ex_ka1)) ((q474)) (ec480) (((hF424.1 9 rfl).trans (fx_9))) (((hF424.1 29 rfl).trans (fx_29))) (by omega) (by omega) (by omega) (by omega) (by omega) (by omega) (by omega) (by omega) (by omega) (by omega) (by omega) (by omega) (sf478) ((wE_mono (by omega) (by omega) (by omega) sf479)) (by omega)
set_option maxRecDepth 20000 in
set_option maxHeartbeats 4000000 in
theorem c_readSeq_w_at_86p {X : jX} {k : Nat} (hP : RPw X k) {d : Nat} {Vs : Nat → Prop} {sb pb : Int} (hvb : VB Vs sb) {c0 c1 : jC} {G : Nat → Int} {A : Nat → Nat → Int} {T : jH} {lv : Int} {ln li at0 fk nd sy na vi le op0 tk0 ec : Int} (hd : 8 * k + 82 ≤ d + 1) (hW : Wk G A) (e_ln : G 9 = ln) (e_li : G 3 = li) (e_at0 : G 10 = at0) (e_fk : G 16 = fk) (e_nd : G 31 = nd) (e_sy : G 19 = sy) (e_na : G 28 = na) (e_vi : G 29 = vi) (e_le : A 4 (ln).toNat = le) (e_op0 : G 15 = op0) (e_tk0 : G 11 = tk0) (e_ec : ecn A (G 31) = ec) (i_LT : LT G A) (i_SV : SV Vs sb G A) (i_PQ : PQ Vs sb pb G A) (h_lv : (-2147483648 : Int) ≤ lv ∧ lv ≤ 2147483647) (p_0 : 0 ≤ lv ∧ lv ≤ 15) (p_1 : 18 - lv ≤ ((k + 1 : Nat) : Int)) (p_2 : fk = 0) (p_3 : ln < li) (p_4 : at0 ≤ le) (p_5 : op0 = 0) (p_6 : nd ≤ 2 * at0 - tz tk0 + 30) (p_7 : sy ≤ na + 2) (p_8 : vi ≤ sy) (p_9 : sb = sy) (p_10 : 1 ≤ tk0) : ∀ (L : jL) (Gx : Nat → Int) (Ax : Nat → Nat → Int) (n at1 tk1 fk1 nd1 op1 sy1 na1 ec1 : Int), jGet L 0 = some (.ref 66) → jGet L 1 = some (.int (i32 (lv))) → jGet L 2 = some (.int (i32 n)) → Wk Gx Ax → Fr [9, 10, 11, 12, 13, 14, 15, 16, 17, 18, 19, 28, 29, 31] [6, 7, 8, 9, 10, 11, 12, 14, 15, 16, 17, 18, 19, 20, 21, 22, 23, 24, 28] G A Gx Ax → Pf nd A Ax → Fx sr (sy) A Ax → Fx [14] (vi) A Ax → Gx 10 = at1 → Gx 11 = tk1 → Gx 16 = fk1 → Gx 31 = nd1 → Gx 15 = op1 → Gx 19 = sy1 → Gx 28 = na1 → ecn Ax (Gx 31) = ec1 → Gx 9 = ln → Gx 29 = vi → ((-2147483648 : Int) ≤ n ∧ n ≤ 2147483647) → (1 ≤ fk1) → (at0 ≤ at1) → (at1 ≤ le) → (nd ≤ n ∧ n ≤ 6998 ∧ n < nd1) → (sy ≤ sy1) → (sy1 ≤ na1 + 2) → (0 ≤ op1 ∧ op1 ≤ 9) → (nd1 - nd ≤ 2 * at1 - 2 * at0 + 8) → wj X d jm297 (86, L, [], rV c0 c1 Gx Ax T) (fun o V' => ∃ (G' : Nat → Int) (A' : Nat → Nat → Int) (r : Int) (ln2 : Int) (at2 : Int) (fk2 : Int) (nd2 : Int) (sy2 : Int) (na2 : Int) (vi2 : Int) (lf2 : Int) (ec2 : Int), V' = rV c0 c1 G' A' T ∧ o = .inl (some (.int (i32 r))) ∧ Wk G' A' ∧ Fr [9, 10, 11, 12, 13, 14, 15, 16, 17, 18, 19, 28, 29, 31] [6, 7, 8, 9, 10, 11, 12, 14, 15, 16, 17, 18, 19, 20, 21, 22, 23, 24, 28] G A G' A' ∧ Pf nd A A' ∧ Fx sr (sy) A A' ∧ Fx [14] (vi) A A' ∧ ((-2147483648 : Int) ≤ r ∧ r ≤ 2147483647) ∧ G' 9 = ln2 ∧ G' 10 = at2 ∧ G' 16 = fk2 ∧ G' 31 = nd2 ∧ G' 19 = sy2 ∧ G' 28 = na2 ∧ G' 29 = vi2 ∧ A' 3 (ln2).toNat = lf2 ∧ ecn A' (G' 31) = ec2 ∧ (at0 ≤ at2) ∧ (nd ≤ nd2) ∧ (sy ≤ sy2) ∧ (sy2 ≤ na2 + 2) ∧ (vi ≤ vi2) ∧ (vi2 ≤ vi + 1) ∧ (0 ≤ r) ∧ (r ≤ 6999) ∧ (ln ≤ ln2) ∧ (ln2 ≤ li) ∧ (((1 ≤ fk2) ∧ (nd2 - nd ≤ 2 * at2 - (2 * at0 - tz tk0) + 14)) ∨ ((fk2 = 0) ∧ (vi2 = vi) ∧ (ln < ln2) ∧ (nd2 - nd ≤ 2 * at2 - (2 * at0 - tz tk0)) ∧ (at2 < lf2 ∨ li ≤ ln2) ∧ (nd ≤ r) ∧ (r < nd2) ∧ (wSt A' (sy2) pb (wP A' (sy2) pb (k)) (Vs) (r) (nd) (nd2) (sy) (sy2)) ∧ (NX A' (r)) ∧ (nd2 - nd + 5 * (ec2 - ec) ≤ 2 * at2 - (2 * at0 - tz tk0))))) := by
  have hF0 : Fr [9, 10, 11, 12, 13, 14, 15, 16, 17, 18, 19, 28, 29, 31] [6, 7, 8, 9, 10, 11, 12, 14, 15, 16, 17, 18, 19, 20, 21, 22, 23, 24, 28] G A G A := Fr_rf
  have hP0 : Pf nd A A := Pf_rf
  have hS0 : Fx sr (sy) A A := Fx_rf
  have hV0 : Fx [14] (vi) A A := Fx_rf
  have b_ln : (0 : Int) ≤ ln ∧ ln ≤ 3000 := e_ln ▸ hW.1 9
  have b_li : (0 : Int) ≤ li ∧ li ≤ 3000 := e_li ▸ hW.1 3
  have b_at0 : (0 : Int) ≤ at0 ∧ at0 ≤ 3002 := e_at0 ▸ hW.1 10
  have b_fk : (0 : Int) ≤ fk ∧ fk ≤ 6 := e_fk ▸ hW.1 16
  have b_nd : (0 : Int) ≤ nd ∧ nd ≤ 6999 := e_nd ▸ hW.1 31
  have b_sy : (0 : Int) ≤ sy ∧ sy ≤ 202 := e_sy ▸ hW.1 19
  have b_na : (0 : Int) ≤ na ∧ na ≤ 200 := e_na ▸ hW.1 28
  have b_vi : (0 : Int) ≤ vi ∧ vi ≤ 202 := e_vi ▸ hW.1 29
  have b_le : (0 : Int) ≤ le ∧ le ≤ 3000 := e_le ▸ hW.2 4 _
  have b_op0 : (-2147483648 : Int) ≤ op0 ∧ op0 ≤ 2147483647 := e_op0 ▸ hW.1 15
  have z_tk0 := tz_f tk0
  have b_tk0 : (0 : Int) ≤ tk0 ∧ tk0 ≤ 5 := e_tk0 ▸ hW.1 11
  intro L Gx Ax n at1 tk1 fk1 nd1 op1 sy1 na1 ec1 gL_0 gL_1 gL_2 hWx hFx hPx hSx hVx ex_at1 ex_tk1 ex_fk1 ex_nd1 ex_op1 ex_sy1 ex_na1 ex_ec1 fx_9 fx_29 rx_n iv_0 iv_1 iv_2 iv_3 iv_4 iv_5 iv_6 iv_7
  have b_at1 : (0 : Int) ≤ at1 ∧ at1 ≤ 3002 := ex_at1 ▸ hWx.1 10
  have z_tk1 := tz_f tk1
  have b_tk1 : (0 : Int) ≤ tk1 ∧ tk1 ≤ 5 := ex_tk1 ▸ hWx.1 11
  have b_fk1 : (0 : Int) ≤ fk1 ∧ fk1 ≤ 6 := ex_fk1 ▸ hWx.1 16
  have b_nd1 : (0 : Int) ≤ nd1 ∧ nd1 ≤ 6999 := ex_nd1 ▸ hWx.1 31
  have b_op1 : (-2147483648 : Int) ≤ op1 ∧ op1 ≤ 2147483647 := ex_op1 ▸ hWx.1 15
  have b_sy1 : (0 : Int) ≤ sy1 ∧ sy1 ≤ 202 := ex_sy1 ▸ hWx.1 19
  have b_na1 : (0 : Int) ≤ na1 ∧ na1 ≤ 200 := ex_na1 ▸ hWx.1 28
  refine jx_ld (pc' := 87) (l' := L) (st' := [.ref 66]) rfl (jl_aloadn gL_0) ?_
  refine jx_ld (pc' := 88) (l' := L) (st' := [.ref 66, .ref 66]) rfl (jl_aloadn gL_0) ?_
  refine jx_ar (pc' := 90) (st' := [.int (i32 (61)), .ref 66, .ref 66]) rfl rfl rfl rfl ?_
  have b482 : (-2147483648 : Int) ≤ Gx 13 ∧ Gx 13 ≤ 2147483647 := hWx.1 13
  refine jx_vr (pc' := 93) (as := [.int (i32 (61))]) (st := [.ref 66]) rfl rfl rfl rfl ⟨rfl, rfl, Nat.le_of_ble_eq_true rfl⟩ rfl rfl (c_is (dd := d) (hd := by omega) (hW := hWx) (k := 61) (tk := tk1) (e_tk := show Gx 11 = tk1 from (ex_tk1)) (tn := Gx 13) (e_tn := show Gx 13 = Gx 13 from rfl)  (h_k := ⟨(by decide), (by decide)⟩)  ) (fun o V' hq => ?_)
  obtain ⟨r483, rfl, rfl, b484, q485⟩ := hq
  refine .inr ⟨_, rfl, ?_⟩
  rcases q485 with ⟨rfl, a486, a487, a488⟩ | rfl
  · have _q : True := trivial
    refine jx_vr (pc' := 96) (as := [.int (i32 (1))]) (st := []) rfl rfl rfl rfl ⟨rfl, rfl, Nat.le_of_ble_eq_true rfl⟩ rfl rfl (c_need (dd := d) (hd := by omega) (hW := hWx) (g := 1) (ln := ln) (e_ln := show Gx 9 = ln from (fx_9)) (le := le) (e_le := show Ax 4 (ln).toNat = le from (congrFun (hFx.2 4 rfl) _).trans (e_le)) (at0 := at1) (e_at0 := show Gx 10 = at1 from (ex_at1)) (fk := fk1) (e_fk := show Gx 16 = fk1 from (ex_fk1)) (tk0 := tk1) (e_tk0 := show Gx 11 = tk1 from (ex_tk1))  (h_g := ⟨(by decide), (by decide)⟩)  (p_0 := by omega)) (fun o V' hq => ?_)
    obtain ⟨G489, A490, at2_491, tk2_492, fk2_493, rfl, rfl, hW494, hF495, e496, e497, e498, p499, p500, q501⟩ := hq
    have hF502 := Fr_tr hFx hF495 (Fr_sub (by decide)) (Fr_sub (by decide))
    have hP503 := Pf_f hPx hF495 (by decide)
    have hS504 := Fx_f hSx hF495 (by decide)
    have hV505 := Fx_f hVx hF495 (by decide)
    have ec506 : ecn A490 (G489 31) = ec1 := (ecn_f (hF495.2 15 rfl) (hF495.1 31 rfl)).trans ex_ec1
    have bat2_491 : (0 : Int) ≤ at2_491 ∧ at2_491 ≤ 3002 := e496 ▸ hW494.1 10
    have ztk2_492 := tz_b tk2_492
    have btk2_492 : (0 : Int) ≤ tk2_492 ∧ tk2_492 ≤ 5 := e497 ▸ hW494.1 11
    have bfk2_493 : (0 : Int) ≤ fk2_493 ∧ fk2_493 ≤ 6 := e498 ▸ hW494.1 16
    refine .inl ⟨rfl, ?_⟩
    rcases q501 with ⟨a507, a508, a509, a510⟩ | ⟨a511, a512, a513, a514⟩
    · have _q : True := trivial
      have z515 := tz_f (tk2_492)
      exact c_readSeq_w_at_96p (X := X) (k := k) (hP := hP) (d := d) (Vs := Vs) (sb := sb) (pb := pb) (hvb := hvb) (c0 := c0) (c1 := c1) (G := G) (A := A) (T := T) (lv := lv) (ln := ln) (li := li) (at0 := at0) (fk := fk) (nd := nd) (sy := sy) (na := na) (vi := vi) (le := le) (op0 := op0) (tk0 := tk0) (ec := ec) (hd := hd) (hW := hW) (e_ln := e_ln) (e_li := e_li) (e_at0 := e_at0) (e_fk := e_fk) (e_nd := e_nd) (e_sy := e_sy) (e_na := e_na) (e_vi := e_vi) (e_le := e_le) (e_op0 := e_op0) (e_tk0 := e_tk0) (e_ec := e_ec) (i_LT := i_LT) (i_SV := i_SV) (i_PQ := i_PQ) (h_lv := h_lv) (p_0 := p_0) (p_1 := p_1) (p_2 := p_2) (p_3 := p_3) (p_4 := p_4) (p_5 := p_5) (p_6 := p_6) (p_7 := p_7) (p_8 := p_8) (p_9 := p_9) (p_10 := p_10) L G489 A490 (n) (at2_491) (tk2_492) (fk2_493) (nd1) (op1) (sy1) (na1) (ec1) gL_0 gL_1 gL_2 hW494 hF502 hP503 hS504 hV505 ((e496)) ((e497)) ((e498)) (((hF495.1 31 rfl).trans (ex_nd1))) (((hF495.1 15 rfl).trans (ex_op1))) (((hF495.1 19 rfl).trans (ex_sy1))) (((hF495.1 28 rfl).trans (ex_na1))) (ec506) (((hF495.1 9 rfl).trans (fx_9))) (((hF495.1 29 rfl).trans (fx_29))) (by omega) (by omega) (by omega) (by omega) (by omega) (by omega) (by omega) (by omega) (by omega)
    · have _q : True := trivial
      exfalso
      omega
  · have _q : True := trivial
    refine jx_vr (pc' := 96) (as := [.int (i32 (0))]) (st := []) rfl rfl rfl rfl ⟨rfl, rfl, Nat.le_of_ble_eq_true rfl⟩ rfl rfl (c_need (dd := d) (hd := by omega) (hW := hWx) (g := 0) (ln := ln) (e_ln := show Gx 9 = ln from (fx_9)) (le := le) (e_le := show Ax 4 (ln).toNat = le from (congrFun (hFx.2 4 rfl) _).trans (e_le)) (at0 := at1) (e_at0 := show Gx 10 = at1 from (ex_at1)) (fk := fk1) (e_fk := show Gx 16 = fk1 from (ex_fk1)) (tk0 := tk1) (e_tk0 := show Gx 11 = tk1 from (ex_tk1))  (h_g := ⟨(by decide), (by decide)⟩)  (p_0 := by omega)) (fun o V' hq => ?_)
    obtain ⟨G516, A517, at2_518, tk2_519, fk2_520, rfl, rfl, hW521, hF522, e523, e524, e525, p526, p527, q528⟩ := hq
    have hF529 := Fr_tr hFx hF522 (Fr_sub (by decide)) (Fr_sub (by decide))
    have hP530 := Pf_f hPx hF522 (by decide)
    have hS531 := Fx_f hSx hF522 (by decide)
    have hV532 := Fx_f hVx hF522 (by decide)
    have ec533 : ecn A517 (G516 31) = ec1 := (ecn_f (hF522.2 15 rfl) (hF522.1 31 rfl)).trans ex_ec1
    have bat2_518 : (0 : Int) ≤ at2_518 ∧ at2_518 ≤ 3002 := e523 ▸ hW521.1 10
    have ztk2_519 := tz_b tk2_519
    have btk2_519 : (0 : Int) ≤ tk2_519 ∧ tk2_519 ≤ 5 := e524 ▸ hW521.1 11
    have bfk2_520 : (0 : Int) ≤ fk2_520 ∧ fk2_520 ≤ 6 := e525 ▸ hW521.1 16
    refine .inl ⟨rfl, ?_⟩
    rcases q528 with ⟨a534, a535, a536, a537⟩ | ⟨a538, a539, a540, a541⟩
    · have _q : True := trivial
      have z542 := tz_f (tk2_519)
      exact c_readSeq_w_at_96p (X := X) (k := k) (hP := hP) (d := d) (Vs := Vs) (sb := sb) (pb := pb) (hvb := hvb) (c0 := c0) (c1 := c1) (G := G) (A := A) (T := T) (lv := lv) (ln := ln) (li := li) (at0 := at0) (fk := fk) (nd := nd) (sy := sy) (na := na) (vi := vi) (le := le) (op0 := op0) (tk0 := tk0) (ec := ec) (hd := hd) (hW := hW) (e_ln := e_ln) (e_li := e_li) (e_at0 := e_at0) (e_fk := e_fk) (e_nd := e_nd) (e_sy := e_sy) (e_na := e_na) (e_vi := e_vi) (e_le := e_le) (e_op0 := e_op0) (e_tk0 := e_tk0) (e_ec := e_ec) (i_LT := i_LT) (i_SV := i_SV) (i_PQ := i_PQ) (h_lv := h_lv) (p_0 := p_0) (p_1 := p_1) (p_2 := p_2) (p_3 := p_3) (p_4 := p_4) (p_5 := p_5) (p_6 := p_6) (p_7 := p_7) (p_8 := p_8) (p_9 := p_9) (p_10 := p_10) L G516 A517 (n) (at2_518) (tk2_519) (fk2_520) (nd1) (op1) (sy1) (na1) (ec1) gL_0 gL_1 gL_2 hW521 hF529 hP530 hS531 hV532 ((e523)) ((e524)) ((e525)) (((hF522.1 31 rfl).trans (ex_nd1))) (((hF522.1 15 rfl).trans (ex_op1))) (((hF522.1 19 rfl).trans (ex_sy1))) (((hF522.1 28 rfl).trans (ex_na1))) (ec533) (((hF522.1 9 rfl).trans (fx_9))) (((hF522.1 29 rfl).trans (fx_29))) (by omega) (by omega) (by omega) (by omega) (by omega) (by omega) (by omega) (by omega) (by omega)
    · have _q : True := trivial
      exfalso
      omega
set_option maxRecDepth 20000 in
set_option maxHeartbeats 4000000 in
theorem c_readSeq_w_at_86 {X : jX} {k : Nat} (hP : RPw X k) {d : Nat} {Vs : Nat → Prop} {sb pb : Int} (hvb : VB Vs sb) {c0 c1 : jC} {G : Nat → Int} {A : Nat → Nat → Int} {T : jH} {lv : Int} {ln li at0 fk nd sy na vi le op0 tk0 ec : Int} (hd : 8 * k + 82 ≤ d + 1) (hW : Wk G A) (e_ln : G 9 = ln) (e_li : G 3 = li) (e_at0 : G 10 = at0) (e_fk : G 16 = fk) (e_nd : G 31 = nd) (e_sy : G 19 = sy) (e_na : G 28 = na) (e_vi : G 29 = vi) (e_le : A 4 (ln).toNat = le) (e_op0 : G 15 = op0) (e_tk0 : G 11 = tk0) (e_ec : ecn A (G 31) = ec) (i_LT : LT G A) (i_SV : SV Vs sb G A) (i_PQ : PQ Vs sb pb G A) (h_lv : (-2147483648 : Int) ≤ lv ∧ lv ≤ 2147483647) (p_0 : 0 ≤ lv ∧ lv ≤ 15) (p_1 : 18 - lv ≤ ((k + 1 : Nat) : Int)) (p_2 : fk = 0) (p_3 : ln < li) (p_4 : at0 ≤ le) (p_5 : op0 = 0) (p_6 : nd ≤ 2 * at0 - tz tk0 + 30) (p_7 : sy ≤ na + 2) (p_8 : vi ≤ sy) (p_9 : sb = sy) (p_10 : 1 ≤ tk0) : ∀ (L : jL) (Gx : Nat → Int) (Ax : Nat → Nat → Int) (n at1 tk1 fk1 nd1 op1 sy1 na1 sa1 ka1 ec1 : Int), jGet L 0 = some (.ref 66) → jGet L 1 = some (.int (i32 (lv))) → jGet L 2 = some (.int (i32 n)) → Wk Gx Ax → Fr [9, 10, 11, 12, 13, 14, 15, 16, 17, 18, 19, 28, 29, 31] [6, 7, 8, 9, 10, 11, 12, 14, 15, 16, 17, 18, 19, 20, 21, 22, 23, 24, 28] G A Gx Ax → Pf nd A Ax → Fx sr (sy) A Ax → Fx [14] (vi) A Ax → Gx 10 = at1 → Gx 11 = tk1 → Gx 16 = fk1 → Gx 31 = nd1 → Gx 15 = op1 → Gx 19 = sy1 → Gx 28 = na1 → Ax 17 (n).toNat = sa1 → Ax 7 (sa1).toNat = ka1 → ecn Ax (Gx 31) = ec1 → Gx 9 = ln → Gx 29 = vi → ((-2147483648 : Int) ≤ n ∧ n ≤ 2147483647) → (fk1 = 0) → (at0 ≤ at1) → (at1 ≤ le) → (n = nd) → (n ≤ 6998 ∧ n < nd1) → (sy1 = sy + 1) → (sa1 = sy) → (sy1 ≤ na1 + 2) → (op1 = 0) → (nd1 - nd ≤ (2 * at1 - tz tk1) - (2 * at0 - tz tk0)) → (ka1 = 9) → (nd1 = n + 1) → (ND Ax (n) (27) (sa1) (0) (0) (0) (0) (0)) → (nd1 - nd + 5 * (ec1 - ec) ≤ (2 * at1 - tz tk1) - (2 * at0 - tz tk0)) → wj X d jm297 (86, L, [], rV c0 c1 Gx Ax T) (fun o V' => ∃ (G' : Nat → Int) (A' : Nat → Nat → Int) (r : Int) (ln2 : Int) (at2 : Int) (fk2 : Int) (nd2 : Int) (sy2 : Int) (na2 : Int) (vi2 : Int) (lf2 : Int) (ec2 : Int), V' = rV c0 c1 G' A' T ∧ o = .inl (some (.int (i32 r))) ∧ Wk G' A' ∧ Fr [9, 10, 11, 12, 13, 14, 15, 16, 17, 18, 19, 28, 29, 31] [6, 7, 8, 9, 10, 11, 12, 14, 15, 16, 17, 18, 19, 20, 21, 22, 23, 24, 28] G A G' A' ∧ Pf nd A A' ∧ Fx sr (sy) A A' ∧ Fx [14] (vi) A A' ∧ ((-2147483648 : Int) ≤ r ∧ r ≤ 2147483647) ∧ G' 9 = ln2 ∧ G' 10 = at2 ∧ G' 16 = fk2 ∧ G' 31 = nd2 ∧ G' 19 = sy2 ∧ G' 28 = na2 ∧ G' 29 = vi2 ∧ A' 3 (ln2).toNat = lf2 ∧ ecn A' (G' 31) = ec2 ∧ (at0 ≤ at2) ∧ (nd ≤ nd2) ∧ (sy ≤ sy2) ∧ (sy2 ≤ na2 + 2) ∧ (vi ≤ vi2) ∧ (vi2 ≤ vi + 1) ∧ (0 ≤ r) ∧ (r ≤ 6999) ∧ (ln ≤ ln2) ∧ (ln2 ≤ li) ∧ (((1 ≤ fk2) ∧ (nd2 - nd ≤ 2 * at2 - (2 * at0 - tz tk0) + 14)) ∨ ((fk2 = 0) ∧ (vi2 = vi) ∧ (ln < ln2) ∧ (nd2 - nd ≤ 2 * at2 - (2 * at0 - tz tk0)) ∧ (at2 < lf2 ∨ li ≤ ln2) ∧ (nd ≤ r) ∧ (r < nd2) ∧ (wSt A' (sy2) pb (wP A' (sy2) pb (k)) (Vs) (r) (nd) (nd2) (sy) (sy2)) ∧ (NX A' (r)) ∧ (nd2 - nd + 5 * (ec2 - ec) ≤ 2 * at2 - (2 * at0 - tz tk0))))) := by
  have hF0 : Fr [9, 10, 11, 12, 13, 14, 15, 16, 17, 18, 19, 28, 29, 31] [6, 7, 8, 9, 10, 11, 12, 14, 15, 16, 17, 18, 19, 20, 21, 22, 23, 24, 28] G A G A := Fr_rf
  have hP0 : Pf nd A A := Pf_rf
  have hS0 : Fx sr (sy) A A := Fx_rf
  have hV0 : Fx [14] (vi) A A := Fx_rf
  have b_ln : (0 : Int) ≤ ln ∧ ln ≤ 3000 := e_ln ▸ hW.1 9
  have b_li : (0 : Int) ≤ li ∧ li ≤ 3000 := e_li ▸ hW.1 3
  have b_at0 : (0 : Int) ≤ at0 ∧ at0 ≤ 3002 := e_at0 ▸ hW.1 10
  have b_fk : (0 : Int) ≤ fk ∧ fk ≤ 6 := e_fk ▸ hW.1 16
  have b_nd : (0 : Int) ≤ nd ∧ nd ≤ 6999 := e_nd ▸ hW.1 31
  have b_sy : (0 : Int) ≤ sy ∧ sy ≤ 202 := e_sy ▸ hW.1 19
  have b_na : (0 : Int) ≤ na ∧ na ≤ 200 := e_na ▸ hW.1 28
  have b_vi : (0 : Int) ≤ vi ∧ vi ≤ 202 := e_vi ▸ hW.1 29
  have b_le : (0 : Int) ≤ le ∧ le ≤ 3000 := e_le ▸ hW.2 4 _
  have b_op0 : (-2147483648 : Int) ≤ op0 ∧ op0 ≤ 2147483647 := e_op0 ▸ hW.1 15
  have z_tk0 := tz_f tk0
  have b_tk0 : (0 : Int) ≤ tk0 ∧ tk0 ≤ 5 := e_tk0 ▸ hW.1 11
  intro L Gx Ax n at1 tk1 fk1 nd1 op1 sy1 na1 sa1 ka1 ec1 gL_0 gL_1 gL_2 hWx hFx hPx hSx hVx ex_at1 ex_tk1 ex_fk1 ex_nd1 ex_op1 ex_sy1 ex_na1 ex_sa1 ex_ka1 ex_ec1 fx_9 fx_29 rx_n iv_0 iv_1 iv_2 iv_3 iv_4 iv_5 iv_6 iv_7 iv_8 iv_9 iv_10 iv_11 iv_12 iv_13
  have b_at1 : (0 : Int) ≤ at1 ∧ at1 ≤ 3002 := ex_at1 ▸ hWx.1 10
  have z_tk1 := tz_f tk1
  have b_tk1 : (0 : Int) ≤ tk1 ∧ tk1 ≤ 5 := ex_tk1 ▸ hWx.1 11
  have b_fk1 : (0 : Int) ≤ fk1 ∧ fk1 ≤ 6 := ex_fk1 ▸ hWx.1 16
  have b_nd1 : (0 : Int) ≤ nd1 ∧ nd1 ≤ 6999 := ex_nd1 ▸ hWx.1 31
  have b_op1 : (-2147483648 : Int) ≤ op1 ∧ op1 ≤ 2147483647 := ex_op1 ▸ hWx.1 15
  have b_sy1 : (0 : Int) ≤ sy1 ∧ sy1 ≤ 202 := ex_sy1 ▸ hWx.1 19
  have b_na1 : (0 : Int) ≤ na1 ∧ na1 ≤ 200 := ex_na1 ▸ hWx.1 28
  refine jx_ld (pc' := 87) (l' := L) (st' := [.ref 66]) rfl (jl_aloadn gL_0) ?_
  refine jx_ld (pc' := 88) (l' := L) (st' := [.ref 66, .ref 66]) rfl (jl_aloadn gL_0) ?_
  refine jx_ar (pc' := 90) (st' := [.int (i32 (61)), .ref 66, .ref 66]) rfl rfl rfl rfl ?_
  have b543 : (-2147483648 : Int) ≤ Gx 13 ∧ Gx 13 ≤ 2147483647 := hWx.1 13
  refine jx_vr (pc' := 93) (as := [.int (i32 (61))]) (st := [.ref 66]) rfl rfl rfl rfl ⟨rfl, rfl, Nat.le_of_ble_eq_true rfl⟩ rfl rfl (c_is (dd := d) (hd := by omega) (hW := hWx) (k := 61) (tk := tk1) (e_tk := show Gx 11 = tk1 from (ex_tk1)) (tn := Gx 13) (e_tn := show Gx 13 = Gx 13 from rfl)  (h_k := ⟨(by decide), (by decide)⟩)  ) (fun o V' hq => ?_)
  obtain ⟨r544, rfl, rfl, b545, q546⟩ := hq
  refine .inr ⟨_, rfl, ?_⟩
  rcases q546 with ⟨rfl, a547, a548, a549⟩ | rfl
  · have _q : True := trivial
    refine jx_vr (pc' := 96) (as := [.int (i32 (1))]) (st := []) rfl rfl rfl rfl ⟨rfl, rfl, Nat.le_of_ble_eq_true rfl⟩ rfl rfl (c_need (dd := d) (hd := by omega) (hW := hWx) (g := 1) (ln := ln) (e_ln := show Gx 9 = ln from (fx_9)) (le := le) (e_le := show Ax 4 (ln).toNat = le from (congrFun (hFx.2 4 rfl) _).trans (e_le)) (at0 := at1) (e_at0 := show Gx 10 = at1 from (ex_at1)) (fk := fk1) (e_fk := show Gx 16 = fk1 from (ex_fk1)) (tk0 := tk1) (e_tk0 := show Gx 11 = tk1 from (ex_tk1))  (h_g := ⟨(by decide), (by decide)⟩)  (p_0 := by omega)) (fun o V' hq => ?_)
    obtain ⟨G550, A551, at2_552, tk2_553, fk2_554, rfl, rfl, hW555, hF556, e557, e558, e559, p560, p561, q562⟩ := hq
    have hF563 := Fr_tr hFx hF556 (Fr_sub (by decide)) (Fr_sub (by decide))
    have hP564 := Pf_f hPx hF556 (by decide)
    have hS565 := Fx_f hSx hF556 (by decide)
    have hV566 := Fx_f hVx hF556 (by decide)
    have sf567 : ND A551 (n) (27) (sa1) (0) (0) (0) (0) (0) := ND_ag (by omega) (Ag_fr hF556 (by decide)) iv_12
    have ec568 : ecn A551 (G550 31) = ec1 := (ecn_f (hF556.2 15 rfl) (hF556.1 31 rfl)).trans ex_ec1
    have bat2_552 : (0 : Int) ≤ at2_552 ∧ at2_552 ≤ 3002 := e557 ▸ hW555.1 10
    have ztk2_553 := tz_b tk2_553
    have btk2_553 : (0 : Int) ≤ tk2_553 ∧ tk2_553 ≤ 5 := e558 ▸ hW555.1 11
    have bfk2_554 : (0 : Int) ≤ fk2_554 ∧ fk2_554 ≤ 6 := e559 ▸ hW555.1 16
    refine .inl ⟨rfl, ?_⟩
    rcases q562 with ⟨a569, a570, a571, a572⟩ | ⟨a573, a574, a575, a576⟩
    · have _q : True := trivial
      have z577 := tz_f (tk2_553)
      exact c_readSeq_w_at_96p (X := X) (k := k) (hP := hP) (d := d) (Vs := Vs) (sb := sb) (pb := pb) (hvb := hvb) (c0 := c0) (c1 := c1) (G := G) (A := A) (T := T) (lv := lv) (ln := ln) (li := li) (at0 := at0) (fk := fk) (nd := nd) (sy := sy) (na := na) (vi := vi) (le := le) (op0 := op0) (tk0 := tk0) (ec := ec) (hd := hd) (hW := hW) (e_ln := e_ln) (e_li := e_li) (e_at0 := e_at0) (e_fk := e_fk) (e_nd := e_nd) (e_sy := e_sy) (e_na := e_na) (e_vi := e_vi) (e_le := e_le) (e_op0 := e_op0) (e_tk0 := e_tk0) (e_ec := e_ec) (i_LT := i_LT) (i_SV := i_SV) (i_PQ := i_PQ) (h_lv := h_lv) (p_0 := p_0) (p_1 := p_1) (p_2 := p_2) (p_3 := p_3) (p_4 := p_4) (p_5 := p_5) (p_6 := p_6) (p_7 := p_7) (p_8 := p_8) (p_9 := p_9) (p_10 := p_10) L G550 A551 (n) (at2_552) (tk2_553) (fk2_554) (nd1) (op1) (sy1) (na1) (ec1) gL_0 gL_1 gL_2 hW555 hF563 hP564 hS565 hV566 ((e557)) ((e558)) ((e559)) (((hF556.1 31 rfl).trans (ex_nd1))) (((hF556.1 15 rfl).trans (ex_op1))) (((hF556.1 19 rfl).trans (ex_sy1))) (((hF556.1 28 rfl).trans (ex_na1))) (ec568) (((hF556.1 9 rfl).trans (fx_9))) (((hF556.1 29 rfl).trans (fx_29))) (by omega) (by omega) (by omega) (by omega) (by omega) (by omega) (by omega) (by omega) (by omega)
    · have _q : True := trivial
      have pz578 : at1 + tz tk2_553 ≤ at2_552 := by omega
      have z579 := tz_f (tk2_553)
      exact c_readSeq_w_at_96 (X := X) (k := k) (hP := hP) (d := d) (Vs := Vs) (sb := sb) (pb := pb) (hvb := hvb) (c0 := c0) (c1 := c1) (G := G) (A := A) (T := T) (lv := lv) (ln := ln) (li := li) (at0 := at0) (fk := fk) (nd := nd) (sy := sy) (na := na) (vi := vi) (le := le) (op0 := op0) (tk0 := tk0) (ec := ec) (hd := hd) (hW := hW) (e_ln := e_ln) (e_li := e_li) (e_at0 := e_at0) (e_fk := e_fk) (e_nd := e_nd) (e_sy := e_sy) (e_na := e_na) (e_vi := e_vi) (e_le := e_le) (e_op0 := e_op0) (e_tk0 := e_tk0) (e_ec := e_ec) (i_LT := i_LT) (i_SV := i_SV) (i_PQ := i_PQ) (h_lv := h_lv) (p_0 := p_0) (p_1 := p_1) (p_2 := p_2) (p_3 := p_3) (p_4 := p_4) (p_5 := p_5) (p_6 := p_6) (p_7 := p_7) (p_8 := p_8) (p_9 := p_9) (p_10 := p_10) L G550 A551 (n) (at2_552) (tk2_553) (fk2_554) (nd1) (op1) (sy1) (na1) (sa1) (ka1) (ec1) gL_0 gL_1 gL_2 hW555 hF563 hP564 hS565 hV566 ((e557)) ((e558)) ((e559)) (((hF556.1 31 rfl).trans (ex_nd1))) (((hF556.1 15 rfl).trans (ex_op1))) (((hF556.1 19 rfl).trans (ex_sy1))) (((hF556.1 28 rfl).trans (ex_na1))) ((congrFun (hF556.2 17 rfl) _).trans (ex_sa1)) ((congrFun (hF556.2 7 rfl) _).trans (ex_ka1)) (ec568) (((hF556.1 9 rfl).trans (fx_9))) (((hF556.1 29 rfl).trans (fx_29))) (by omega) (by omega) (by omega) (by omega) (by omega) (by omega) (by omega) (by omega) (by omega) (by omega) (by omega) (by omega) (by omega) (sf567) (by omega)
  · have _q : True := trivial
    refine jx_vr (pc' := 96) (as := [.int (i32 (0))]) (st := []) rfl rfl rfl rfl ⟨rfl, rfl, Nat.le_of_ble_eq_true rfl⟩ rfl rfl (c_need (dd := d) (hd := by omega) (hW := hWx) (g := 0) (ln := ln) (e_ln := show Gx 9 = ln from (fx_9)) (le := le) (e_le := show Ax 4 (ln).toNat = le from (congrFun (hFx.2 4 rfl) _).trans (e_le)) (at0 := at1) (e_at0 := show Gx 10 = at1 from (ex_at1)) (fk := fk1) (e_fk := show Gx 16 = fk1 from (ex_fk1)) (tk0 := tk1) (e_tk0 := show Gx 11 = tk1 from (ex_tk1))  (h_g := ⟨(by decide), (by decide)⟩)  (p_0 := by omega)) (fun o V' hq => ?_)
    obtain ⟨G580, A581, at2_582, tk2_583, fk2_584, rfl, rfl, hW585, hF586, e587, e588, e589, p590, p591, q592⟩ := hq
    have hF593 := Fr_tr hFx hF586 (Fr_sub (by decide)) (Fr_sub (by decide))
    have hP594 := Pf_f hPx hF586 (by decide)
    have hS595 := Fx_f hSx hF586 (by decide)
    have hV596 := Fx_f hVx hF586 (by decide)
    have sf597 : ND A581 (n) (27) (sa1) (0) (0) (0) (0) (0) := ND_ag (by omega) (Ag_fr hF586 (by decide)) iv_12
    have ec598 : ecn A581 (G580 31) = ec1 := (ecn_f (hF586.2 15 rfl) (hF586.1 31 rfl)).trans ex_ec1
    have bat2_582 : (0 : Int) ≤ at2_582 ∧ at2_582 ≤ 3002 := e587 ▸ hW585.1 10
    have ztk2_583 := tz_b tk2_583
    have btk2_583 : (0 : Int) ≤ tk2_583 ∧ tk2_583 ≤ 5 := e588 ▸ hW585.1 11
    have bfk2_584 : (0 : Int) ≤ fk2_584 ∧ fk2_584 ≤ 6 := e589 ▸ hW585.1 16
    refine .inl ⟨rfl, ?_⟩
    rcases q592 with ⟨a599, a600, a601, a602⟩ | ⟨a603, a604, a605, a606⟩
    · have _q : True := trivial
      have z607 := tz_f (tk2_583)
      exact c_readSeq_w_at_96p (X := X) (k := k) (hP := hP) (d := d) (Vs := Vs) (sb := sb) (pb := pb) (hvb := hvb) (c0 := c0) (c1 := c1) (G := G) (A := A) (T := T) (lv := lv) (ln := ln) (li := li) (at0 := at0) (fk := fk) (nd := nd) (sy := sy) (na := na) (vi := vi) (le := le) (op0 := op0) (tk0 := tk0) (ec := ec) (hd := hd) (hW := hW) (e_ln := e_ln) (e_li := e_li) (e_at0 := e_at0) (e_fk := e_fk) (e_nd := e_nd) (e_sy := e_sy) (e_na := e_na) (e_vi := e_vi) (e_le := e_le) (e_op0 := e_op0) (e_tk0 := e_tk0) (e_ec := e_ec) (i_LT := i_LT) (i_SV := i_SV) (i_PQ := i_PQ) (h_lv := h_lv) (p_0 := p_0) (p_1 := p_1) (p_2 := p_2) (p_3 := p_3) (p_4 := p_4) (p_5 := p_5) (p_6 := p_6) (p_7 := p_7) (p_8 := p_8) (p_9 := p_9) (p_10 := p_10) L G580 A581 (n) (at2_582) (tk2_583) (fk2_584) (nd1) (op1) (sy1) (na1) (ec1) gL_0 gL_1 gL_2 hW585 hF593 hP594 hS595 hV596 ((e587)) ((e588)) ((e589)) (((hF586.1 31 rfl).trans (ex_nd1))) (((hF586.1 15 rfl).trans (ex_op1))) (((hF586.1 19 rfl).trans (ex_sy1))) (((hF586.1 28 rfl).trans (ex_na1))) (ec598) (((hF586.1 9 rfl).trans (fx_9))) (((hF586.1 29 rfl).trans (fx_29))) (by omega) (by omega) (by omega) (by omega) (by omega) (by omega) (by omega) (by omega) (by omega)
    · have _q : True := trivial
      exfalso
      omega
set_option maxRecDepth 20000 in
set_option maxHeartbeats 4000000 in
theorem c_readSeq_w {X : jX} {k : Nat} (hP : RPw X k) {dd : Nat} {Vs : Nat → Prop} {sb pb : Int} (hvb : VB Vs sb) {c0 c1 : jC} {G : Nat → Int} {A : Nat → Nat → Int} {T : jH} {lv : Int} {ln li at0 fk nd sy na vi le op0 tk0 ec : Int} (hd : 8 * k + 82 ≤ dd) (hW : Wk G A) (e_ln : G 9 = ln) (e_li : G 3 = li) (e_at0 : G 10 = at0) (e_fk : G 16 = fk) (e_nd : G 31 = nd) (e_sy : G 19 = sy) (e_na : G 28 = na) (e_vi : G 29 = vi) (e_le : A 4 (ln).toNat = le) (e_op0 : G 15 = op0) (e_tk0 : G 11 = tk0) (e_ec : ecn A (G 31) = ec) (i_LT : LT G A) (i_SV : SV Vs sb G A) (i_PQ : PQ Vs sb pb G A) (h_lv : (-2147483648 : Int) ≤ lv ∧ lv ≤ 2147483647) (p_0 : 0 ≤ lv ∧ lv ≤ 15) (p_1 : 18 - lv ≤ ((k + 1 : Nat) : Int)) (p_2 : fk = 0) (p_3 : ln < li) (p_4 : at0 ≤ le) (p_5 : op0 = 0) (p_6 : nd ≤ 2 * at0 - tz tk0 + 30) (p_7 : sy ≤ na + 2) (p_8 : vi ≤ sy) (p_9 : sb = sy) (p_10 : 1 ≤ tk0) : wk X dd 297 [.ref 66, .int (i32 lv)] (rV c0 c1 G A T) (fun o V' => ∃ (G' : Nat → Int) (A' : Nat → Nat → Int) (r : Int) (ln2 : Int) (at2 : Int) (fk2 : Int) (nd2 : Int) (sy2 : Int) (na2 : Int) (vi2 : Int) (lf2 : Int) (ec2 : Int), V' = rV c0 c1 G' A' T ∧ o = .inl (some (.int (i32 r))) ∧ Wk G' A' ∧ Fr [9, 10, 11, 12, 13, 14, 15, 16, 17, 18, 19, 28, 29, 31] [6, 7, 8, 9, 10, 11, 12, 14, 15, 16, 17, 18, 19, 20, 21, 22, 23, 24, 28] G A G' A' ∧ Pf nd A A' ∧ Fx sr (sy) A A' ∧ Fx [14] (vi) A A' ∧ ((-2147483648 : Int) ≤ r ∧ r ≤ 2147483647) ∧ G' 9 = ln2 ∧ G' 10 = at2 ∧ G' 16 = fk2 ∧ G' 31 = nd2 ∧ G' 19 = sy2 ∧ G' 28 = na2 ∧ G' 29 = vi2 ∧ A' 3 (ln2).toNat = lf2 ∧ ecn A' (G' 31) = ec2 ∧ (at0 ≤ at2) ∧ (nd ≤ nd2) ∧ (sy ≤ sy2) ∧ (sy2 ≤ na2 + 2) ∧ (vi ≤ vi2) ∧ (vi2 ≤ vi + 1) ∧ (0 ≤ r) ∧ (r ≤ 6999) ∧ (ln ≤ ln2) ∧ (ln2 ≤ li) ∧ (((1 ≤ fk2) ∧ (nd2 - nd ≤ 2 * at2 - (2 * at0 - tz tk0) + 14)) ∨ ((fk2 = 0) ∧ (vi2 = vi) ∧ (ln < ln2) ∧ (nd2 - nd ≤ 2 * at2 - (2 * at0 - tz tk0)) ∧ (at2 < lf2 ∨ li ≤ ln2) ∧ (nd ≤ r) ∧ (r < nd2) ∧ (wSt A' (sy2) pb (wP A' (sy2) pb (k)) (Vs) (r) (nd) (nd2) (sy) (sy2)) ∧ (NX A' (r)) ∧ (nd2 - nd + 5 * (ec2 - ec) ≤ 2 * at2 - (2 * at0 - tz tk0))))) := by
  obtain ⟨d, rfl⟩ : ∃ d, dd = d + 1 := ⟨dd - 1, by omega⟩
  refine wk_of (e := jm297) rfl (Nat.le_of_ble_eq_true rfl) ?_
  show wj X d jm297 (0, [(0, .ref 66), (1, .int (i32 (lv)))], [], rV c0 c1 G A T) _
  have hF0 : Fr [9, 10, 11, 12, 13, 14, 15, 16, 17, 18, 19, 28, 29, 31] [6, 7, 8, 9, 10, 11, 12, 14, 15, 16, 17, 18, 19, 20, 21, 22, 23, 24, 28] G A G A := Fr_rf
  have hP0 : Pf nd A A := Pf_rf
  have hS0 : Fx sr (sy) A A := Fx_rf
  have hV0 : Fx [14] (vi) A A := Fx_rf
  have b_ln : (0 : Int) ≤ ln ∧ ln ≤ 3000 := e_ln ▸ hW.1 9
  have b_li : (0 : Int) ≤ li ∧ li ≤ 3000 := e_li ▸ hW.1 3
  have b_at0 : (0 : Int) ≤ at0 ∧ at0 ≤ 3002 := e_at0 ▸ hW.1 10
  have b_fk : (0 : Int) ≤ fk ∧ fk ≤ 6 := e_fk ▸ hW.1 16
  have b_nd : (0 : Int) ≤ nd ∧ nd ≤ 6999 := e_nd ▸ hW.1 31
  have b_sy : (0 : Int) ≤ sy ∧ sy ≤ 202 := e_sy ▸ hW.1 19
  have b_na : (0 : Int) ≤ na ∧ na ≤ 200 := e_na ▸ hW.1 28
  have b_vi : (0 : Int) ≤ vi ∧ vi ≤ 202 := e_vi ▸ hW.1 29
  have b_le : (0 : Int) ≤ le ∧ le ≤ 3000 := e_le ▸ hW.2 4 _
  have b_op0 : (-2147483648 : Int) ≤ op0 ∧ op0 ≤ 2147483647 := e_op0 ▸ hW.1 15
  have z_tk0 := tz_f tk0
  have b_tk0 : (0 : Int) ≤ tk0 ∧ tk0 ≤ 5 := e_tk0 ▸ hW.1 11
  refine jx_ld (pc' := 1) (l' := [(0, .ref 66), (1, .int (i32 (lv)))]) (st' := [.ref 66]) rfl (jl_aloadn rfl) ?_
  refine jx_vr (pc' := 4) (as := []) (st := []) rfl rfl rfl rfl ⟨rfl, rfl, Nat.le_of_ble_eq_true rfl⟩ rfl rfl (c_next (dd := d) (hd := by omega) (hW := hW)  (ln := ln) (e_ln := show G 9 = ln from (e_ln)) (le := le) (e_le := show A 4 (ln).toNat = le from (e_le)) (at0 := at0) (e_at0 := show G 10 = at0 from (e_at0))    (p_0 := by omega)) (fun o V' hq => ?_)
  obtain ⟨G608, A609, at2_610, tk2_611, rfl, rfl, hW612, hF613, e614, e615, p616, p617, p618, -⟩ := hq
  have hF620 := Fr_tr hF0 hF613 (Fr_sub (by decide)) (Fr_sub (by decide))
  have hP621 := Pf_f hP0 hF613 (by decide)
  have hS622 := Fx_f hS0 hF613 (by decide)
  have hV623 := Fx_f hV0 hF613 (by decide)
  have ec624 : ecn A609 (G608 31) = ec := (ecn_f (hF613.2 15 rfl) (hF613.1 31 rfl)).trans e_ec
  have bat2_610 : (0 : Int) ≤ at2_610 ∧ at2_610 ≤ 3002 := e614 ▸ hW612.1 10
  have ztk2_611 := tz_b tk2_611
  have btk2_611 : (0 : Int) ≤ tk2_611 ∧ tk2_611 ≤ 5 := e615 ▸ hW612.1 11
  refine .inl ⟨rfl, ?_⟩
  have pz625 : at0 + tz tk2_611 ≤ at2_610 := by omega
  refine jx_ld (pc' := 5) (l' := [(0, .ref 66), (1, .int (i32 (lv)))]) (st' := [.ref 66]) rfl (jl_aloadn rfl) ?_
  have z626 := tz_f (tk2_611)
  refine jr_get (pc' := 8) (i := 11) (v := .int (i32 (tk2_611))) rfl rfl (by decide) (rFv_eq (by decide) (show G608 11 = tk2_611 from (e615))) rfl ?_
  refine jx_if_ne (pc' := 11) (tg := 38) rfl rfl rfl (Int.le_trans (by decide : (-2147483648 : Int) ≤ 0) btk2_611.1) (Int.le_trans btk2_611.2 (by decide : (5 : Int) ≤ 2147483647)) (fun h627 => ?_) (fun h627 => ?_)
  · have _q := h627
    refine jx_ld (pc' := 39) (l' := [(0, .ref 66), (1, .int (i32 (lv)))]) (st' := [.ref 66]) rfl (jl_aloadn rfl) ?_
    have z628 := tz_f (tk2_611)
    refine jr_get (pc' := 42) (i := 11) (v := .int (i32 (tk2_611))) rfl rfl (by decide) (rFv_eq (by decide) (show G608 11 = tk2_611 from (e615))) rfl ?_
    refine jx_ar (pc' := 43) (st' := [.int (i32 (1)), .int (i32 (tk2_611))]) rfl rfl rfl rfl ?_
    refine jx_icmp_eq (pc' := 46) (tg := 57) rfl rfl rfl (Int.le_trans (by decide : (-2147483648 : Int) ≤ 0) btk2_611.1) (Int.le_trans btk2_611.2 (by decide : (5 : Int) ≤ 2147483647)) (by decide) (by decide) (fun h629 => ?_) (fun h629 => ?_)
    · have _q := h629
      refine jx_ld (pc' := 58) (l' := [(0, .ref 66), (1, .int (i32 (lv)))]) (st' := [.ref 66]) rfl (jl_aloadn rfl) ?_
      refine jx_ar (pc' := 60) (st' := [.int (i32 (27)), .ref 66]) rfl rfl rfl rfl ?_
      refine jx_ar (pc' := 61) (st' := [.int (i32 (0)), .int (i32 (27)), .ref 66]) rfl rfl rfl rfl ?_
      refine jx_ar (pc' := 62) (st' := [.int (i32 (0)), .int (i32 (0)), .int (i32 (27)), .ref 66]) rfl rfl rfl rfl ?_
      refine jx_ar (pc' := 63) (st' := [.int (i32 (0)), .int (i32 (0)), .int (i32 (0)), .int (i32 (27)), .ref 66]) rfl rfl rfl rfl ?_
      refine jx_ar (pc' := 64) (st' := [.int (i32 (0)), .int (i32 (0)), .int (i32 (0)), .int (i32 (0)), .int (i32 (27)), .ref 66]) rfl rfl rfl rfl ?_
      refine jx_vr (pc' := 67) (as := [.int (i32 (27)), .int (i32 (0)), .int (i32 (0)), .int (i32 (0)), .int (i32 (0))]) (st := []) rfl rfl rfl rfl ⟨rfl, rfl, Nat.le_of_ble_eq_true rfl⟩ rfl rfl (c_node_o (dd := d) (hd := by omega) (hW := hW612) (kind := 27) (a := 0) (b := 0) (c := 0) (e := 0) (nd := nd) (e_nd := show G608 31 = nd from ((hF613.1 31 rfl).trans (e_nd))) (ec := ec) (e_ec := show ecn A609 (G608 31) = ec from ec624)  (h_kind := ⟨(by decide), (by decide)⟩) (h_a := ⟨(by decide), (by decide)⟩) (h_b := ⟨(by decide), (by decide)⟩) (h_c := ⟨(by decide), (by decide)⟩) (h_e := ⟨(by decide), (by decide)⟩)  (p_0 := by omega) (p_1 := by omega) (p_2 := by omega)) (fun o V' hq => ?_)
      obtain ⟨G630, A631, nd2_632, ec2_633, rfl, rfl, hW634, hF635, hQ636, e637, e638, p639, p640, p641, -⟩ := hq
      have hF643 := Fr_tr hF620 hF635 (Fr_sub (by decide)) (Fr_sub (by decide))
      have hP644 := Pf_tr hP621 hQ636 (by omega)
      have hS645 := Fx_f hS622 hF635 (by decide)
      have hV646 := Fx_f hV623 hF635 (by decide)
      have bnd2_632 : (0 : Int) ≤ nd2_632 ∧ nd2_632 ≤ 6999 := e637 ▸ hW634.1 31
      refine .inr ⟨_, rfl, ?_⟩
      refine jx_ld (pc' := 68) (l' := jSto1 [(0, .ref 66), (1, .int (i32 (lv)))] 2 (.int (i32 (nd)))) (st' := []) rfl rfl ?_
      obtain ⟨L647, eL647⟩ : ∃ q, q = jSto1 [(0, .ref 66), (1, .int (i32 (lv)))] 2 (.int (i32 (nd))) := ⟨_, rfl⟩
      rw [← eL647]
      have gL647_0 : jGet L647 0 = some (.ref 66) := eL647 ▸ jg_ne (by decide) (rfl : jGet [(0, .ref 66), (1, .int (i32 (lv)))] 0 = some (.ref 66)) rfl
      have gL647_1 : jGet L647 1 = some (.int (i32 (lv))) := eL647 ▸ jg_ne (by decide) (rfl : jGet [(0, .ref 66), (1, .int (i32 (lv)))] 1 = some (.int (i32 (lv)))) rfl
      have gL647_2 : jGet L647 2 = some (.int (i32 (nd))) := eL647 ▸ jg_eq
      refine jx_ld (pc' := 69) (l' := L647) (st' := [.ref 66]) rfl (jl_aloadn gL647_0) ?_
      refine jr_get (pc' := 72) (i := 34) (v := .ref 84) rfl rfl (by decide) rfl rfl ?_
      refine jx_ld (pc' := 73) (l' := L647) (st' := [.int (i32 (nd)), .ref 84]) rfl (jl_iloadn gL647_2) ?_
      refine jx_ld (pc' := 74) (l' := L647) (st' := [.ref 66, .int (i32 (nd)), .ref 84]) rfl (jl_aloadn gL647_0) ?_
      refine jx_ar (pc' := 76) (st' := [.int (i32 (9)), .ref 66, .int (i32 (nd)), .ref 84]) rfl rfl rfl rfl ?_
      refine jx_ar (pc' := 77) (st' := [.int (i32 (2)), .int (i32 (9)), .ref 66, .int (i32 (nd)), .ref 84]) rfl rfl rfl rfl ?_
      refine jx_vr (pc' := 80) (as := [.int (i32 (9)), .int (i32 (2))]) (st := [.int (i32 (nd)), .ref 84]) rfl rfl rfl rfl ⟨rfl, rfl, Nat.le_of_ble_eq_true rfl⟩ rfl rfl (c_newName (dd := d) (hd := by omega) (hW := hW634) (kind := 9) (many := 2) (sy := sy) (e_sy := show G630 19 = sy from ((hF635.1 19 rfl).trans ((hF613.1 19 rfl).trans (e_sy)))) (na := na) (e_na := show G630 28 = na from ((hF635.1 28 rfl).trans ((hF613.1 28 rfl).trans (e_na)))) (fk := fk) (e_fk := show G630 16 = fk from ((hF635.1 16 rfl).trans ((hF613.1 16 rfl).trans (e_fk))))  (h_kind := ⟨(by decide), (by decide)⟩) (h_many := ⟨(by decide), (by decide)⟩)  (p_0 := by omega) (p_1 := by omega)) (fun o V' hq => ?_)
      obtain ⟨G648, A649, r650, sy2_651, na2_652, fk2_653, yk2_654, rfl, rfl, hW655, hF656, hQ657, b658, e659, e660, e661, e662, q663⟩ := hq
      have hF664 := Fr_tr hF643 hF656 (Fr_sub (by decide)) (Fr_sub (by decide))
      have hP665 := Pf_f hP644 hF656 (by decide)
      have hS666 := Fx_tr hS645 hQ657 (by omega)
      have hV667 := Fx_f hV646 hF656 (by decide)
      have sf668 : ND A649 (nd) (27) (0) (0) (0) (0) (0) (0) := ND_ag (by omega) (Ag_fr hF656 (by decide)) p641
      have ec669 : ecn A649 (G648 31) = ec2_633 := (ecn_f (hF656.2 15 rfl) (hF656.1 31 rfl)).trans e638
      have bsy2_651 : (0 : Int) ≤ sy2_651 ∧ sy2_651 ≤ 202 := e659 ▸ hW655.1 19
      have bna2_652 : (0 : Int) ≤ na2_652 ∧ na2_652 ≤ 200 := e660 ▸ hW655.1 28
      have bfk2_653 : (0 : Int) ≤ fk2_653 ∧ fk2_653 ≤ 6 := e661 ▸ hW655.1 16
      have byk2_654 : (0 : Int) ≤ yk2_654 ∧ yk2_654 ≤ 14 := e662 ▸ hW655.2 7 _
      refine .inr ⟨_, rfl, ?_⟩
      rcases q663 with ⟨a676, a670, a671, a672, a673, a674, a675⟩ | ⟨rfl, a677, a678, a679⟩
      · have _q : True := trivial
        rw [a676]
        refine jr_st (pc' := 81) (i := 17) (m := 7000) (z := nd) (y := sy) rfl (by decide) rfl (by decide) (by omega) (by omega) rfl ?_
        have hW681 : Wk G648 (uA A649 17 (nd).toNat (sy)) := Wk_a hW655 (show (-2147483648 : Int) ≤ sy by omega) (show sy ≤ (2147483647 : Int) by omega)
        have hF682 := Fr_a (z := sy) (k := 17) (n := (nd).toNat) hF664 (by decide)
        obtain ⟨A680, eA680⟩ : ∃ q, q = uA A649 17 (nd).toNat (sy) := ⟨_, rfl⟩
        rw [← eA680]
        rw [← eA680] at hW681 hF682
        have q683 : A680 17 (nd).toNat = sy := by rw [eA680]; exact uA_eq
        have hP684 : Pf nd A A680 := eA680 ▸ Pf_a hP665 (z := nd) (by omega) (by omega)
        have hS685 : Fx sr (sy) A A680 := eA680 ▸ Fx_n hS666 rfl
        have hV686 : Fx [14] (vi) A A680 := eA680 ▸ Fx_n hV667 rfl
        have sf687 : ND A680 (nd) (27) (sy) (0) (0) (0) (0) (0) := ND_a eA680 sf668
        have sf688 : YD A680 (sy) (9) (2) := YD_fx (by omega) (by omega) (Sg_ne (sb := sy + 1) eA680 rfl) a675
        have ec689 : ecn A680 (G648 31) = ec2_633 := (ecn_e ((congrFun eA680 15).trans (uA_ne (by decide)))).trans ec669
        refine jx_ld (pc' := 82) (l' := L647) (st' := [.ref 66]) rfl (jl_aloadn gL647_0) ?_
        refine jx_ar (pc' := 83) (st' := [.int (i32 (1)), .ref 66]) rfl rfl rfl rfl ?_
        refine jx_vr (pc' := 86) (as := [.int (i32 (1))]) (st := []) rfl rfl rfl rfl ⟨rfl, rfl, Nat.le_of_ble_eq_true rfl⟩ rfl rfl (c_need (dd := d) (hd := by omega) (hW := hW681) (g := 1) (ln := ln) (e_ln := show G648 9 = ln from ((hF656.1 9 rfl).trans ((hF635.1 9 rfl).trans ((hF613.1 9 rfl).trans (e_ln))))) (le := le) (e_le := show A680 4 (ln).toNat = le from (congrFun (((congrFun eA680 4).trans (uA_ne (by decide))).trans ((hF656.2 4 rfl).trans ((hF635.2 4 rfl).trans (hF613.2 4 rfl)))) _).trans (e_le)) (at0 := at2_610) (e_at0 := show G648 10 = at2_610 from ((hF656.1 10 rfl).trans ((hF635.1 10 rfl).trans (e614)))) (fk := fk2_653) (e_fk := show G648 16 = fk2_653 from (e661)) (tk0 := tk2_611) (e_tk0 := show G648 11 = tk2_611 from ((hF656.1 11 rfl).trans ((hF635.1 11 rfl).trans (e615))))  (h_g := ⟨(by decide), (by decide)⟩)  (p_0 := by omega)) (fun o V' hq => ?_)
        obtain ⟨G690, A691, at2_692, tk2_693, fk2_694, rfl, rfl, hW695, hF696, e697, e698, e699, p700, p701, q702⟩ := hq
        have hF703 := Fr_tr hF682 hF696 (Fr_sub (by decide)) (Fr_sub (by decide))
        have hP704 := Pf_f hP684 hF696 (by decide)
        have hS705 := Fx_f hS685 hF696 (by decide)
        have hV706 := Fx_f hV686 hF696 (by decide)
        have sf707 : ND A691 (nd) (27) (sy) (0) (0) (0) (0) (0) := ND_ag (by omega) (Ag_fr hF696 (by decide)) sf687
        have sf708 : YD A691 (sy) (9) (2) := YD_fx (by omega) (by omega) (Sg_fr (sb := sy + 1) hF696 (by decide)) sf688
        have ec709 : ecn A691 (G690 31) = ec2_633 := (ecn_f (hF696.2 15 rfl) (hF696.1 31 rfl)).trans ec689
        have bat2_692 : (0 : Int) ≤ at2_692 ∧ at2_692 ≤ 3002 := e697 ▸ hW695.1 10
        have ztk2_693 := tz_b tk2_693
        have btk2_693 : (0 : Int) ≤ tk2_693 ∧ tk2_693 ≤ 5 := e698 ▸ hW695.1 11
        have bfk2_694 : (0 : Int) ≤ fk2_694 ∧ fk2_694 ≤ 6 := e699 ▸ hW695.1 16
        refine .inl ⟨rfl, ?_⟩
        rcases q702 with ⟨a710, a711, a712, a713⟩ | ⟨a714, a715, a716, a717⟩
        · have _q : True := trivial
          have z718 := tz_f (tk2_693)
          exact c_readSeq_w_at_86p (X := X) (k := k) (hP := hP) (d := d) (Vs := Vs) (sb := sb) (pb := pb) (hvb := hvb) (c0 := c0) (c1 := c1) (G := G) (A := A) (T := T) (lv := lv) (ln := ln) (li := li) (at0 := at0) (fk := fk) (nd := nd) (sy := sy) (na := na) (vi := vi) (le := le) (op0 := op0) (tk0 := tk0) (ec := ec) (hd := hd) (hW := hW) (e_ln := e_ln) (e_li := e_li) (e_at0 := e_at0) (e_fk := e_fk) (e_nd := e_nd) (e_sy := e_sy) (e_na := e_na) (e_vi := e_vi) (e_le := e_le) (e_op0 := e_op0) (e_tk0 := e_tk0) (e_ec := e_ec) (i_LT := i_LT) (i_SV := i_SV) (i_PQ := i_PQ) (h_lv := h_lv) (p_0 := p_0) (p_1 := p_1) (p_2 := p_2) (p_3 := p_3) (p_4 := p_4) (p_5 := p_5) (p_6 := p_6) (p_7 := p_7) (p_8 := p_8) (p_9 := p_9) (p_10 := p_10) L647 G690 A691 (nd) (at2_692) (tk2_693) (fk2_694) (nd2_632) (op0) (sy2_651) (na2_652) (ec2_633) gL647_0 gL647_1 gL647_2 hW695 hF703 hP704 hS705 hV706 ((e697)) ((e698)) ((e699)) (((hF696.1 31 rfl).trans ((hF656.1 31 rfl).trans (e637)))) (((hF696.1 15 rfl).trans ((hF656.1 15 rfl).trans ((hF635.1 15 rfl).trans ((hF613.1 15 rfl).trans (e_op0)))))) (((hF696.1 19 rfl).trans (e659))) (((hF696.1 28 rfl).trans (e660))) (ec709) (((hF696.1 9 rfl).trans ((hF656.1 9 rfl).trans ((hF635.1 9 rfl).trans ((hF613.1 9 rfl).trans (e_ln)))))) (((hF696.1 29 rfl).trans ((hF656.1 29 rfl).trans ((hF635.1 29 rfl).trans ((hF613.1 29 rfl).trans (e_vi)))))) (by omega) (by omega) (by omega) (by omega) (by omega) (by omega) (by omega) (by omega) (by omega)
        · have _q : True := trivial
          have pz719 : at2_610 + tz tk2_693 ≤ at2_692 := by omega
          have z720 := tz_f (tk2_693)
          exact c_readSeq_w_at_86 (X := X) (k := k) (hP := hP) (d := d) (Vs := Vs) (sb := sb) (pb := pb) (hvb := hvb) (c0 := c0) (c1 := c1) (G := G) (A := A) (T := T) (lv := lv) (ln := ln) (li := li) (at0 := at0) (fk := fk) (nd := nd) (sy := sy) (na := na) (vi := vi) (le := le) (op0 := op0) (tk0 := tk0) (ec := ec) (hd := hd) (hW := hW) (e_ln := e_ln) (e_li := e_li) (e_at0 := e_at0) (e_fk := e_fk) (e_nd := e_nd) (e_sy := e_sy) (e_na := e_na) (e_vi := e_vi) (e_le := e_le) (e_op0 := e_op0) (e_tk0 := e_tk0) (e_ec := e_ec) (i_LT := i_LT) (i_SV := i_SV) (i_PQ := i_PQ) (h_lv := h_lv) (p_0 := p_0) (p_1 := p_1) (p_2 := p_2) (p_3 := p_3) (p_4 := p_4) (p_5 := p_5) (p_6 := p_6) (p_7 := p_7) (p_8 := p_8) (p_9 := p_9) (p_10 := p_10) L647 G690 A691 (nd) (at2_692) (tk2_693) (fk2_694) (nd2_632) (op0) (sy2_651) (na2_652) (sy) (yk2_654) (ec2_633) gL647_0 gL647_1 gL647_2 hW695 hF703 hP704 hS705 hV706 ((e697)) ((e698)) ((e699)) (((hF696.1 31 rfl).trans ((hF656.1 31 rfl).trans (e637)))) (((hF696.1 15 rfl).trans ((hF656.1 15 rfl).trans ((hF635.1 15 rfl).trans ((hF613.1 15 rfl).trans (e_op0)))))) (((hF696.1 19 rfl).trans (e659))) (((hF696.1 28 rfl).trans (e660))) ((congrFun (hF696.2 17 rfl) _).trans (q683)) ((congrFun ((hF696.2 7 rfl).trans ((congrFun eA680 7).trans (uA_ne (by decide)))) _).trans (e662)) (ec709) (((hF696.1 9 rfl).trans ((hF656.1 9 rfl).trans ((hF635.1 9 rfl).trans ((hF613.1 9 rfl).trans (e_ln)))))) (((hF696.1 29 rfl).trans ((hF656.1 29 rfl).trans ((hF635.1 29 rfl).trans ((hF613.1 29 rfl).trans (e_vi)))))) (by omega) (by omega) (by omega) (by omega) (by omega) (by omega) (by omega) (by omega) (by omega) (by omega) (by omega) (by omega) (by omega) (sf707) (by omega)
      · have _q : True := trivial
        refine jr_st (pc' := 81) (i := 17) (m := 7000) (z := nd) (y := 0) rfl (by decide) rfl (by decide) (by omega) (by omega) rfl ?_
        have hW722 : Wk G648 (uA A649 17 (nd).toNat (0)) := Wk_a hW655 (show (-2147483648 : Int) ≤ 0 by omega) (show 0 ≤ (2147483647 : Int) by omega)
        have hF723 := Fr_a (z := 0) (k := 17) (n := (nd).toNat) hF664 (by decide)
        obtain ⟨A721, eA721⟩ : ∃ q, q = uA A649 17 (nd).toNat (0) := ⟨_, rfl⟩
        rw [← eA721]
        rw [← eA721] at hW722 hF723
        have q724 : A721 17 (nd).toNat = 0 := by rw [eA721]; exact uA_eq
        have hP725 : Pf nd A A721 := eA721 ▸ Pf_a hP665 (z := nd) (by omega) (by omega)
        have hS726 : Fx sr (sy) A A721 := eA721 ▸ Fx_n hS666 rfl
        have hV727 : Fx [14] (vi) A A721 := eA721 ▸ Fx_n hV667 rfl
        have sf728 : ND A721 (nd) (27) (0) (0) (0) (0) (0) (0) := ND_a eA721 sf668
        have ec729 : ecn A721 (G648 31) = ec2_633 := (ecn_e ((congrFun eA721 15).trans (uA_ne (by decide)))).trans ec669
        refine jx_ld (pc' := 82) (l' := L647) (st' := [.ref 66]) rfl (jl_aloadn gL647_0) ?_
        refine jx_ar (pc' := 83) (st' := [.int (i32 (1)), .ref 66]) rfl rfl rfl rfl ?_
        refine jx_vr (pc' := 86) (as := [.int (i32 (1))]) (st := []) rfl rfl rfl rfl ⟨rfl, rfl, Nat.le_of_ble_eq_true rfl⟩ rfl rfl (c_need (dd := d) (hd := by omega) (hW := hW722) (g := 1) (ln := ln) (e_ln := show G648 9 = ln from ((hF656.1 9 rfl).trans ((hF635.1 9 rfl).trans ((hF613.1 9 rfl).trans (e_ln))))) (le := le) (e_le := show A721 4 (ln).toNat = le from (congrFun (((congrFun eA721 4).trans (uA_ne (by decide))).trans ((hF656.2 4 rfl).trans ((hF635.2 4 rfl).trans (hF613.2 4 rfl)))) _).trans (e_le)) (at0 := at2_610) (e_at0 := show G648 10 = at2_610 from ((hF656.1 10 rfl).trans ((hF635.1 10 rfl).trans (e614)))) (fk := fk2_653) (e_fk := show G648 16 = fk2_653 from (e661)) (tk0 := tk2_611) (e_tk0 := show G648 11 = tk2_611 from ((hF656.1 11 rfl).trans ((hF635.1 11 rfl).trans (e615))))  (h_g := ⟨(by decide), (by decide)⟩)  (p_0 := by omega)) (fun o V' hq => ?_)
        obtain ⟨G730, A731, at2_732, tk2_733, fk2_734, rfl, rfl, hW735, hF736, e737, e738, e739, p740, p741, q742⟩ := hq
        have hF743 := Fr_tr hF723 hF736 (Fr_sub (by decide)) (Fr_sub (by decide))
        have hP744 := Pf_f hP725 hF736 (by decide)
        have hS745 := Fx_f hS726 hF736 (by decide)
        have hV746 := Fx_f hV727 hF736 (by decide)
        have sf747 : ND A731 (nd) (27) (0) (0) (0) (0) (0) (0) := ND_ag (by omega) (Ag_fr hF736 (by decide)) sf728
        have ec748 : ecn A731 (G730 31) = ec2_633 := (ecn_f (hF736.2 15 rfl) (hF736.1 31 rfl)).trans ec729
        have bat2_732 : (0 : Int) ≤ at2_732 ∧ at2_732 ≤ 3002 := e737 ▸ hW735.1 10
        have ztk2_733 := tz_b tk2_733
        have btk2_733 : (0 : Int) ≤ tk2_733 ∧ tk2_733 ≤ 5 := e738 ▸ hW735.1 11
        have bfk2_734 : (0 : Int) ≤ fk2_734 ∧ fk2_734 ≤ 6 := e739 ▸ hW735.1 16
        refine .inl ⟨rfl, ?_⟩
        rcases q742 with ⟨a749, a750, a751, a752⟩ | ⟨a753, a754, a755, a756⟩
        · have _q : True := trivial
          have z757 := tz_f (tk2_733)
          exact c_readSeq_w_at_86p (X := X) (k := k) (hP := hP) (d := d) (Vs := Vs) (sb := sb) (pb := pb) (hvb := hvb) (c0 := c0) (c1 := c1) (G := G) (A := A) (T := T) (lv := lv) (ln := ln) (li := li) (at0 := at0) (fk := fk) (nd := nd) (sy := sy) (na := na) (vi := vi) (le := le) (op0 := op0) (tk0 := tk0) (ec := ec) (hd := hd) (hW := hW) (e_ln := e_ln) (e_li := e_li) (e_at0 := e_at0) (e_fk := e_fk) (e_nd := e_nd) (e_sy := e_sy) (e_na := e_na) (e_vi := e_vi) (e_le := e_le) (e_op0 := e_op0) (e_tk0 := e_tk0) (e_ec := e_ec) (i_LT := i_LT) (i_SV := i_SV) (i_PQ := i_PQ) (h_lv := h_lv) (p_0 := p_0) (p_1 := p_1) (p_2 := p_2) (p_3 := p_3) (p_4 := p_4) (p_5 := p_5) (p_6 := p_6) (p_7 := p_7) (p_8 := p_8) (p_9 := p_9) (p_10 := p_10) L647 G730 A731 (nd) (at2_732) (tk2_733) (fk2_734) (nd2_632) (op0) (sy2_651) (na2_652) (ec2_633) gL647_0 gL647_1 gL647_2 hW735 hF743 hP744 hS745 hV746 ((e737)) ((e738)) ((e739)) (((hF736.1 31 rfl).trans ((hF656.1 31 rfl).trans (e637)))) (((hF736.1 15 rfl).trans ((hF656.1 15 rfl).trans ((hF635.1 15 rfl).trans ((hF613.1 15 rfl).trans (e_op0)))))) (((hF736.1 19 rfl).trans (e659))) (((hF736.1 28 rfl).trans (e660))) (ec748) (((hF736.1 9 rfl).trans ((hF656.1 9 rfl).trans ((hF635.1 9 rfl).trans ((hF613.1 9 rfl).trans (e_ln)))))) (((hF736.1 29 rfl).trans ((hF656.1 29 rfl).trans ((hF635.1 29 rfl).trans ((hF613.1 29 rfl).trans (e_vi)))))) (by omega) (by omega) (by omega) (by omega) (by omega) (by omega) (by omega) (by omega) (by omega)
        · have _q : True := trivial
          exfalso
          omega
    · have _q := h629
      refine jx_ld (pc' := 47) (l' := [(0, .ref 66), (1, .int (i32 (lv)))]) (st' := [.ref 66]) rfl (jl_aloadn rfl) ?_
      refine jx_ar (pc' := 48) (st' := [.int (i32 (1)), .ref 66]) rfl rfl rfl rfl ?_
      refine jx_ld (pc' := 49) (l' := [(0, .ref 66), (1, .int (i32 (lv)))]) (st' := [.ref 66, .int (i32 (1)), .ref 66]) rfl (jl_aloadn rfl) ?_
      have b758 : (-3000 : Int) ≤ G608 12 ∧ G608 12 ≤ 3002 := hW612.1 12
      refine jr_get (pc' := 52) (i := 12) (v := .int (i32 (G608 12))) rfl rfl (by decide) rfl rfl ?_
      refine jx_vr (pc' := 55) (as := [.int (i32 (1)), .int (i32 (G608 12))]) (st := []) rfl rfl rfl rfl ⟨rfl, rfl, Nat.le_of_ble_eq_true rfl⟩ rfl rfl (c_fail (dd := d) (hd := by omega) (hW := hW612) (kind := 1) (place := G608 12) (fk := fk) (e_fk := show G608 16 = fk from ((hF613.1 16 rfl).trans (e_fk)))  (h_kind := ⟨(by decide), (by decide)⟩) (h_place := ⟨(Int.le_trans (by decide : (-2147483648 : Int) ≤ -3000) b758.1), (Int.le_trans b758.2 (by decide : (3002 : Int) ≤ 2147483647))⟩)  (p_0 := by omega) (p_1 := by omega)) (fun o V' hq => ?_)
      obtain ⟨G759, A760, fk2_761, rfl, rfl, hW762, hF763, e764, p765, -⟩ := hq
      have hF767 := Fr_tr hF620 hF763 (Fr_sub (by decide)) (Fr_sub (by decide))
      have hP768 := Pf_f hP621 hF763 (by decide)
      have hS769 := Fx_f hS622 hF763 (by decide)
      have hV770 := Fx_f hV623 hF763 (by decide)
      have ec771 : ecn A760 (G759 31) = ec := (ecn_f (hF763.2 15 rfl) (hF763.1 31 rfl)).trans ec624
      have bfk2_761 : (0 : Int) ≤ fk2_761 ∧ fk2_761 ≤ 6 := e764 ▸ hW762.1 16
      refine .inl ⟨rfl, ?_⟩
      refine jx_ar (pc' := 56) (st' := [.int (i32 (0))]) rfl rfl rfl rfl ?_
      refine jx_rt (v := some (.int (i32 (0)))) rfl rfl rfl rfl rfl rfl ?_
      exact ⟨_, _, _, ln, at2_610, fk2_761, nd, sy, na, vi, A 3 (ln).toNat, ec, rfl, rfl, hW762, hF767, hP768, hS769, hV770, by omega, ((hF763.1 9 rfl).trans ((hF613.1 9 rfl).trans (e_ln))), ((hF763.1 10 rfl).trans (e614)), (e764), ((hF763.1 31 rfl).trans ((hF613.1 31 rfl).trans (e_nd))), ((hF763.1 19 rfl).trans ((hF613.1 19 rfl).trans (e_sy))), ((hF763.1 28 rfl).trans ((hF613.1 28 rfl).trans (e_na))), ((hF763.1 29 rfl).trans ((hF613.1 29 rfl).trans (e_vi))), (congrFun ((hF763.2 3 rfl).trans (hF613.2 3 rfl)) _), ec771, by omega, by omega, by omega, by omega, by omega, by omega, by omega, by omega, by omega, by omega, by first | exact Or.inl (⟨by omega, by omega⟩)⟩
  · have _q := h627
    refine jx_ld (pc' := 12) (l' := [(0, .ref 66), (1, .int (i32 (lv)))]) (st' := [.ref 66]) rfl (jl_aloadn rfl) ?_
    refine jx_ar (pc' := 14) (st' := [.int (i32 (26)), .ref 66]) rfl rfl rfl rfl ?_
    refine jx_ar (pc' := 15) (st' := [.int (i32 (0)), .int (i32 (26)), .ref 66]) rfl rfl rfl rfl ?_
    refine jx_ar (pc' := 16) (st' := [.int (i32 (0)), .int (i32 (0)), .int (i32 (26)), .ref 66]) rfl rfl rfl rfl ?_
    refine jx_ar (pc' := 17) (st' := [.int (i32 (0)), .int (i32 (0)), .int (i32 (0)), .int (i32 (26)), .ref 66]) rfl rfl rfl rfl ?_
    refine jx_ar (pc' := 18) (st' := [.int (i32 (0)), .int (i32 (0)), .int (i32 (0)), .int (i32 (0)), .int (i32 (26)), .ref 66]) rfl rfl rfl rfl ?_
    refine jx_vr (pc' := 21) (as := [.int (i32 (26)), .int (i32 (0)), .int (i32 (0)), .int (i32 (0)), .int (i32 (0))]) (st := []) rfl rfl rfl rfl ⟨rfl, rfl, Nat.le_of_ble_eq_true rfl⟩ rfl rfl (c_node_o (dd := d) (hd := by omega) (hW := hW612) (kind := 26) (a := 0) (b := 0) (c := 0) (e := 0) (nd := nd) (e_nd := show G608 31 = nd from ((hF613.1 31 rfl).trans (e_nd))) (ec := ec) (e_ec := show ecn A609 (G608 31) = ec from ec624)  (h_kind := ⟨(by decide), (by decide)⟩) (h_a := ⟨(by decide), (by decide)⟩) (h_b := ⟨(by decide), (by decide)⟩) (h_c := ⟨(by decide), (by decide)⟩) (h_e := ⟨(by decide), (by decide)⟩)  (p_0 := by omega) (p_1 := by omega) (p_2 := by omega)) (fun o V' hq => ?_)
    obtain ⟨G772, A773, nd2_774, ec2_775, rfl, rfl, hW776, hF777, hQ778, e779, e780, p781, p782, p783, -⟩ := hq
    have hF785 := Fr_tr hF620 hF777 (Fr_sub (by decide)) (Fr_sub (by decide))
    have hP786 := Pf_tr hP621 hQ778 (by omega)
    have hS787 := Fx_f hS622 hF777 (by decide)
    have hV788 := Fx_f hV623 hF777 (by decide)
    have bnd2_774 : (0 : Int) ≤ nd2_774 ∧ nd2_774 ≤ 6999 := e779 ▸ hW776.1 31
    refine .inr ⟨_, rfl, ?_⟩
    refine jx_ld (pc' := 22) (l' := jSto1 [(0, .ref 66), (1, .int (i32 (lv)))] 2 (.int (i32 (nd)))) (st' := []) rfl rfl ?_
    obtain ⟨L789, eL789⟩ : ∃ q, q = jSto1 [(0, .ref 66), (1, .int (i32 (lv)))] 2 (.int (i32 (nd))) := ⟨_, rfl⟩
    rw [← eL789]
    have gL789_0 : jGet L789 0 = some (.ref 66) := eL789 ▸ jg_ne (by decide) (rfl : jGet [(0, .ref 66), (1, .int (i32 (lv)))] 0 = some (.ref 66)) rfl
    have gL789_1 : jGet L789 1 = some (.int (i32 (lv))) := eL789 ▸ jg_ne (by decide) (rfl : jGet [(0, .ref 66), (1, .int (i32 (lv)))] 1 = some (.int (i32 (lv)))) rfl
    have gL789_2 : jGet L789 2 = some (.int (i32 (nd))) := eL789 ▸ jg_eq
    refine jx_ld (pc' := 23) (l' := L789) (st' := [.ref 66]) rfl (jl_aloadn gL789_0) ?_
    refine jx_vr (pc' := 26) (as := []) (st := []) rfl rfl rfl rfl ⟨rfl, rfl, Nat.le_of_ble_eq_true rfl⟩ rfl rfl (c_endLine (dd := d) (hd := by omega) (hW := hW776)  (ln := ln) (e_ln := show G772 9 = ln from ((hF777.1 9 rfl).trans ((hF613.1 9 rfl).trans (e_ln)))) (li := li) (e_li := show G772 3 = li from ((hF777.1 3 rfl).trans ((hF613.1 3 rfl).trans (e_li)))) (fk := fk) (e_fk := show G772 16 = fk from ((hF777.1 16 rfl).trans ((hF613.1 16 rfl).trans (e_fk)))) (tk0 := tk2_611) (e_tk0 := show G772 11 = tk2_611 from ((hF777.1 11 rfl).trans (e615)))    (p_0 := by omega)) (fun o V' hq => ?_)
    obtain ⟨G790, A791, ln2_792, fk2_793, rfl, rfl, hW794, hF795, e796, e797, q798⟩ := hq
    have hF799 := Fr_tr hF785 hF795 (Fr_sub (by decide)) (Fr_sub (by decide))
    have hP800 := Pf_f hP786 hF795 (by decide)
    have hS801 := Fx_f hS787 hF795 (by decide)
    have hV802 := Fx_f hV788 hF795 (by decide)
    have sf803 : ND A791 (nd) (26) (0) (0) (0) (0) (0) (0) := ND_ag (by omega) (Ag_fr hF795 (by decide)) p783
    have ec804 : ecn A791 (G790 31) = ec2_775 := (ecn_f (hF795.2 15 rfl) (hF795.1 31 rfl)).trans e780
    have bln2_792 : (0 : Int) ≤ ln2_792 ∧ ln2_792 ≤ 3000 := e796 ▸ hW794.1 9
    have bfk2_793 : (0 : Int) ≤ fk2_793 ∧ fk2_793 ≤ 6 := e797 ▸ hW794.1 16
    refine .inl ⟨rfl, ?_⟩
    rcases q798 with ⟨a805, a806, a807, a808, a809⟩ | ⟨a810, a811⟩
    · have _q : True := trivial
      have b812 : (0 : Int) ≤ A 3 (ln2_792).toNat ∧ A 3 (ln2_792).toNat ≤ 3000 := hW.2 3 _
      have lt813 : ln2_792 < li → le < A 3 (ln2_792).toNat := fun hh => LT_nx (LT_ext (((hF795.1 3 rfl).trans ((hF777.1 3 rfl).trans (hF613.1 3 rfl)))) (((hF795.2 3 rfl).trans ((hF777.2 3 rfl).trans (hF613.2 3 rfl)))) (((hF795.2 4 rfl).trans ((hF777.2 4 rfl).trans (hF613.2 4 rfl)))) i_LT) (show G790 3 = li from ((hF795.1 3 rfl).trans ((hF777.1 3 rfl).trans ((hF613.1 3 rfl).trans (e_li))))) (show A791 4 (ln).toNat = le from (congrFun ((hF795.2 4 rfl).trans ((hF777.2 4 rfl).trans (hF613.2 4 rfl))) _).trans (e_le)) (show A791 3 (ln2_792).toNat = A 3 (ln2_792).toNat from (congrFun ((hF795.2 3 rfl).trans ((hF777.2 3 rfl).trans (hF613.2 3 rfl))) _)) (show ln2_792 = ln + 1 by omega) (by omega) hh
      refine jx_ld (pc' := 27) (l' := L789) (st' := [.ref 66]) rfl (jl_aloadn gL789_0) ?_
      refine jx_ld (pc' := 28) (l' := L789) (st' := [.int (i32 (nd)), .ref 66]) rfl (jl_iloadn gL789_2) ?_
      refine jx_ld (pc' := 29) (l' := L789) (st' := [.int (i32 (lv)), .int (i32 (nd)), .ref 66]) rfl (jl_iloadn gL789_1) ?_
      refine jx_ar (pc' := 30) (st' := [.int (i32 (0)), .int (i32 (lv)), .int (i32 (nd)), .ref 66]) rfl rfl rfl rfl ?_
      refine jx_hp (pc' := 33) (st' := [.int (i32 (100000)), .int (i32 (0)), .int (i32 (lv)), .int (i32 (nd)), .ref 66]) rfl rfl rfl rfl rfl rfl ?_
      refine jx_vr (pc' := 36) (as := [.int (i32 (nd)), .int (i32 (lv)), .int (i32 (0)), .int (i32 (100000))]) (st := []) rfl rfl rfl rfl ⟨rfl, rfl, Nat.le_of_ble_eq_true rfl⟩ rfl rfl (c_readChildren_w (dd := d) (hP := hP) (zz := nd) (hd := by omega) (hW := hW794) (n := nd) (lv := lv) (least := 0) (mo := 100000) (kk := 26) (aa := 0) (bb := 0) (cc := 0) (de := 0) (xx := 0) (ln := ln2_792) (e_ln := show G790 9 = ln2_792 from (e796)) (li := li) (e_li := show G790 3 = li from ((hF795.1 3 rfl).trans ((hF777.1 3 rfl).trans ((hF613.1 3 rfl).trans (e_li))))) (at0 := at2_610) (e_at0 := show G790 10 = at2_610 from ((hF795.1 10 rfl).trans ((hF777.1 10 rfl).trans (e614)))) (fk := fk2_793) (e_fk := show G790 16 = fk2_793 from (e797)) (nd := nd2_774) (e_nd := show G790 31 = nd2_774 from ((hF795.1 31 rfl).trans (e779))) (sy := sy) (e_sy := show G790 19 = sy from ((hF795.1 19 rfl).trans ((hF777.1 19 rfl).trans ((hF613.1 19 rfl).trans (e_sy))))) (na := na) (e_na := show G790 28 = na from ((hF795.1 28 rfl).trans ((hF777.1 28 rfl).trans ((hF613.1 28 rfl).trans (e_na))))) (vi := vi) (e_vi := show G790 29 = vi from ((hF795.1 29 rfl).trans ((hF777.1 29 rfl).trans ((hF613.1 29 rfl).trans (e_vi))))) (lf := A 3 (ln2_792).toNat) (e_lf := show A791 3 (ln2_792).toNat = A 3 (ln2_792).toNat from (congrFun ((hF795.2 3 rfl).trans ((hF777.2 3 rfl).trans (hF613.2 3 rfl))) _)) (ec := ec2_775) (e_ec := show ecn A791 (G790 31) = ec2_775 from ec804) (i_LT := (LT_ext (((hF795.1 3 rfl).trans ((hF777.1 3 rfl).trans (hF613.1 3 rfl)))) (((hF795.2 3 rfl).trans ((hF777.2 3 rfl).trans (hF613.2 3 rfl)))) (((hF795.2 4 rfl).trans ((hF777.2 4 rfl).trans (hF613.2 4 rfl)))) i_LT)) (i_SV := (SV_fx i_SV e_vi (show G790 29 = vi from ((hF795.1 29 rfl).trans ((hF777.1 29 rfl).trans ((hF613.1 29 rfl).trans (e_vi))))) (by omega) hV802)) (i_PQ := (PQ_fx i_PQ hS801 (by omega) (hF799.2 29 rfl) (hF799.2 30 rfl))) (hvb := hvb) (h_n := ⟨(Int.le_trans (by decide : (-2147483648 : Int) ≤ 0) b_nd.1), (Int.le_trans b_nd.2 (by decide : (6999 : Int) ≤ 2147483647))⟩) (h_lv := ⟨(Int.le_trans (by decide : (-2147483648 : Int) ≤ -2147483648) h_lv.1), (Int.le_trans h_lv.2 (by decide : (2147483647 : Int) ≤ 2147483647))⟩) (h_least := ⟨(by decide), (by decide)⟩) (h_mo := ⟨(by decide), (by decide)⟩)  (p_0 := by omega) (p_1 := by omega) (p_2 := by omega) (p_3 := by omega) (p_4 := by omega) (p_5 := by omega) (p_6 := by omega) (p_7 := by omega) (p_8 := by omega) (p_9 := by omega) (p_10 := by omega) (p_11 := by omega) (p_12 := by omega) (p_13 := by omega) (p_14 := by omega) (p_15 := sf803)) (fun o V' hq => ?_)
      obtain ⟨G814, A815, ln2_816, at2_817, fk2_818, nd2_819, sy2_820, na2_821, vi2_822, lf2_823, mm_824, f2_825, ec2_826, rfl, rfl, hW827, hF828, hQ829, hQ830, hQ831, hQ832, e833, e834, e835, e836, e837, e838, e839, e840, e841, e842, e843, p844, p845, p846, p847, p848, p849, p850, q851⟩ := hq
      have hF852 := Fr_tr hF799 hF828 (Fr_sub (by decide)) (Fr_sub (by decide))
      have hP853 := Pf_tr hP800 hQ829 (by omega)
      have hS854 := Fx_tr hS801 hQ831 (by omega)
      have hV855 := Fx_tr hV802 hQ832 (by omega)
      have bln2_816 : (0 : Int) ≤ ln2_816 ∧ ln2_816 ≤ 3000 := e833 ▸ hW827.1 9
      have bat2_817 : (0 : Int) ≤ at2_817 ∧ at2_817 ≤ 3002 := e834 ▸ hW827.1 10
      have bfk2_818 : (0 : Int) ≤ fk2_818 ∧ fk2_818 ≤ 6 := e835 ▸ hW827.1 16
      have bnd2_819 : (0 : Int) ≤ nd2_819 ∧ nd2_819 ≤ 6999 := e836 ▸ hW827.1 31
      have bsy2_820 : (0 : Int) ≤ sy2_820 ∧ sy2_820 ≤ 202 := e837 ▸ hW827.1 19
      have bna2_821 : (0 : Int) ≤ na2_821 ∧ na2_821 ≤ 200 := e838 ▸ hW827.1 28
      have bvi2_822 : (0 : Int) ≤ vi2_822 ∧ vi2_822 ≤ 202 := e839 ▸ hW827.1 29
      have blf2_823 : (0 : Int) ≤ lf2_823 ∧ lf2_823 ≤ 3000 := e840 ▸ hW827.2 3 _
      have bmm_824 : (-2147483648 : Int) ≤ mm_824 ∧ mm_824 ≤ 2147483647 := e841 ▸ hW827.2 18 _
      have bf2_825 : (-2147483648 : Int) ≤ f2_825 ∧ f2_825 ≤ 2147483647 := e842 ▸ hW827.2 21 _
      refine .inl ⟨rfl, ?_⟩
      rcases q851 with ⟨a856, a857⟩ | ⟨a858, a859, a860, a861, a862, a863, a864, a865⟩
      · have _q : True := trivial
        refine jx_ld (pc' := 37) (l' := L789) (st' := [.int (i32 (nd))]) rfl (jl_iloadn gL789_2) ?_
        refine jx_rt (v := some (.int (i32 (nd)))) rfl rfl rfl rfl rfl rfl ?_
        exact ⟨_, _, _, ln2_816, at2_817, fk2_818, nd2_819, sy2_820, na2_821, vi2_822, lf2_823, ec2_826, rfl, rfl, hW827, hF852, hP853, hS854, hV855, by omega, (e833), (e834), (e835), (e836), (e837), (e838), (e839), (e840), e843, by omega, by omega, by omega, by omega, by omega, by omega, by omega, by omega, by omega, by omega, by first | exact Or.inl (⟨by omega, by omega⟩)⟩
      · have _q : True := trivial
        refine jx_ld (pc' := 37) (l' := L789) (st' := [.int (i32 (nd))]) rfl (jl_iloadn gL789_2) ?_
        refine jx_rt (v := some (.int (i32 (nd)))) rfl rfl rfl rfl rfl rfl ?_
        exact ⟨_, _, _, ln2_816, at2_817, fk2_818, nd2_819, sy2_820, na2_821, vi2_822, lf2_823, ec2_826, rfl, rfl, hW827, hF852, hP853, hS854, hV855, by omega, (e833), (e834), (e835), (e836), (e837), (e838), (e839), (e840), e843, by omega, by omega, by omega, by omega, by omega, by omega, by omega, by omega, by omega, by omega, by first | exact Or.inr ((⟨by omega, by omega, by omega, by omega, by omega, by omega, by omega, (wS_seq (many := mm_824) a863 (RL_eq a864 (by omega) (by omega) (by omega) (by omega) (by omega))), (NX_nd a863), by omega⟩))⟩
    · have _q : True := trivial
      refine jx_ld (pc' := 27) (l' := L789) (st' := [.ref 66]) rfl (jl_aloadn gL789_0) ?_
      refine jx_ld (pc' := 28) (l' := L789) (st' := [.int (i32 (nd)), .ref 66]) rfl (jl_iloadn gL789_2) ?_
      refine jx_ld (pc' := 29) (l' := L789) (st' := [.int (i32 (lv)), .int (i32 (nd)), .ref 66]) rfl (jl_iloadn gL789_1) ?_
      refine jx_ar (pc' := 30) (st' := [.int (i32 (0)), .int (i32 (lv)), .int (i32 (nd)), .ref 66]) rfl rfl rfl rfl ?_
      refine jx_hp (pc' := 33) (st' := [.int (i32 (100000)), .int (i32 (0)), .int (i32 (lv)), .int (i32 (nd)), .ref 66]) rfl rfl rfl rfl rfl rfl ?_
      refine jx_vr (pc' := 36) (as := [.int (i32 (nd)), .int (i32 (lv)), .int (i32 (0)), .int (i32 (100000))]) (st := []) rfl rfl rfl rfl ⟨rfl, rfl, Nat.le_of_ble_eq_true rfl⟩ rfl rfl (c_readChildren_f (dd := d) (zz := nd) (hd := by omega) (hW := hW794) (n := nd) (lv := lv) (least := 0) (mo := 100000) (fk := fk2_793) (e_fk := show G790 16 = fk2_793 from (e797))  (h_n := ⟨(Int.le_trans (by decide : (-2147483648 : Int) ≤ 0) b_nd.1), (Int.le_trans b_nd.2 (by decide : (6999 : Int) ≤ 2147483647))⟩) (h_lv := ⟨(Int.le_trans (by decide : (-2147483648 : Int) ≤ -2147483648) h_lv.1), (Int.le_trans h_lv.2 (by decide : (2147483647 : Int) ≤ 2147483647))⟩) (h_least := ⟨(by decide), (by decide)⟩) (h_mo := ⟨(by decide), (by decide)⟩)  (p_0 := by omega) (p_1 := by omega) (p_2 := by omega) (p_3 := by omega)) (fun o V' hq => ?_)
      obtain ⟨G866, A867, fk2_868, rfl, rfl, hW869, hF870, hQ871, e872, p873, -⟩ := hq
      have hF875 := Fr_tr hF799 hF870 (Fr_sub (by decide)) (Fr_sub (by decide))
      have hP876 := Pf_tr hP800 hQ871 (by omega)
      have hS877 := Fx_f hS801 hF870 (by decide)
      have hV878 := Fx_f hV802 hF870 (by decide)
      have ec879 : ecn A867 (G866 31) = ec2_775 := (ecn_f (hF870.2 15 rfl) (hF870.1 31 rfl)).trans ec804
      have bfk2_868 : (0 : Int) ≤ fk2_868 ∧ fk2_868 ≤ 6 := e872 ▸ hW869.1 16
      refine .inl ⟨rfl, ?_⟩
      refine jx_ld (pc' := 37) (l' := L789) (st' := [.int (i32 (nd))]) rfl (jl_iloadn gL789_2) ?_
      refine jx_rt (v := some (.int (i32 (nd)))) rfl rfl rfl rfl rfl rfl ?_
      exact ⟨_, _, _, ln2_792, at2_610, fk2_868, nd2_774, sy, na, vi, A 3 (ln2_792).toNat, ec2_775, rfl, rfl, hW869, hF875, hP876, hS877, hV878, by omega, ((hF870.1 9 rfl).trans (e796)), ((hF870.1 10 rfl).trans ((hF795.1 10 rfl).trans ((hF777.1 10 rfl).trans (e614)))), (e872), ((hF870.1 31 rfl).trans ((hF795.1 31 rfl).trans (e779))), ((hF870.1 19 rfl).trans ((hF795.1 19 rfl).trans ((hF777.1 19 rfl).trans ((hF613.1 19 rfl).trans (e_sy))))), ((hF870.1 28 rfl).trans ((hF795.1 28 rfl).trans ((hF777.1 28 rfl).trans ((hF613.1 28 rfl).trans (e_na))))), ((hF870.1 29 rfl).trans ((hF795.1 29 rfl).trans ((hF777.1 29 rfl).trans ((hF613.1 29 rfl).trans (e_vi))))), (congrFun ((hF870.2 3 rfl).trans ((hF795.2 3 rfl).trans ((hF777.2 3 rfl).trans (hF613.2 3 rfl)))) _), ec879, by omega, by omega, by omega, by omega, by omega, by omega, by omega, by omega, by omega, by omega, by first | exact Or.inl (⟨by omega, by omega⟩)⟩
set_option maxRecDepth 20000 in
set_option maxHeartbeats 4000000 in
theorem c_readPar_w_at_132p {X : jX} {k : Nat} (hP : RPw X k) {d : Nat} {Vs : Nat → Prop} {sb pb : Int} (hvb : VB Vs sb) {c0 c1 : jC} {G : Nat → Int} {A : Nat → Nat → Int} {T : jH} {lv : Int} {ln li at0 fk nd sy na vi le op0 tk0 ec : Int} (hd : 8 * k + 82 ≤ d + 1) (hW : Wk G A) (e_ln : G 9 = ln) (e_li : G 3 = li) (e_at0 : G 10 = at0) (e_fk : G 16 = fk) (e_nd : G 31 = nd) (e_sy : G 19 = sy) (e_na : G 28 = na) (e_vi : G 29 = vi) (e_le : A 4 (ln).toNat = le) (e_op0 : G 15 = op0) (e_tk0 : G 11 = tk0) (e_ec : ecn A (G 31) = ec) (i_LT : LT G A) (i_SV : SV Vs sb G A) (i_PQ : PQ Vs sb pb G A) (h_lv : (-2147483648 : Int) ≤ lv ∧ lv ≤ 2147483647) (p_0 : 0 ≤ lv ∧ lv ≤ 15) (p_1 : 18 - lv ≤ ((k + 1 : Nat) : Int)) (p_2 : fk = 0) (p_3 : ln < li) (p_4 : at0 ≤ le) (p_5 : op0 = 0) (p_6 : nd ≤ 2 * at0 - tz tk0 + 30) (p_7 : sy ≤ na + 2) (p_8 : vi ≤ sy) (p_9 : sb = sy) (p_10 : 1 ≤ tk0) : ∀ (L : jL) (Gx : Nat → Int) (Ax : Nat → Nat → Int) (n at1 tk1 fk1 nd1 op1 sy1 na1 ec1 : Int), jGet L 0 = some (.ref 66) → jGet L 1 = some (.int (i32 (lv))) → jGet L 2 = some (.int (i32 n)) → Wk Gx Ax → Fr [9, 10, 11, 12, 13, 14, 15, 16, 17, 18, 19, 28, 29, 31] [6, 7, 8, 9, 10, 11, 12, 14, 15, 16, 17, 18, 19, 20, 21, 22, 23, 24, 28] G A Gx Ax → Pf nd A Ax → Fx sr (sy) A Ax → Fx [14] (vi) A Ax → Gx 10 = at1 → Gx 11 = tk1 → Gx 16 = fk1 → Gx 31 = nd1 → Gx 15 = op1 → Gx 19 = sy1 → Gx 28 = na1 → ecn Ax (Gx 31) = ec1 → Gx 9 = ln → Gx 29 = vi → ((-2147483648 : Int) ≤ n ∧ n ≤ 2147483647) → (1 ≤ fk1) → (at0 ≤ at1) → (at1 ≤ le) → (nd ≤ n ∧ n ≤ 6998 ∧ n < nd1) → (sy ≤ sy1) → (sy1 ≤ na1 + 2) → (0 ≤ op1 ∧ op1 ≤ 9) → (nd1 - nd ≤ 2 * at1 - 2 * at0 + 8) → wj X d jm299 (132, L, [], rV c0 c1 Gx Ax T) (fun o V' => ∃ (G' : Nat → Int) (A' : Nat → Nat → Int) (r : Int) (ln2 : Int) (at2 : Int) (fk2 : Int) (nd2 : Int) (sy2 : Int) (na2 : Int) (vi2 : Int) (lf2 : Int) (ec2 : Int), V' = rV c0 c1 G' A' T ∧ o = .inl (some (.int (i32 r))) ∧ Wk G' A' ∧ Fr [9, 10, 11, 12, 13, 14, 15, 16, 17, 18, 19, 28, 29, 31] [6, 7, 8, 9, 10, 11, 12, 14, 15, 16, 17, 18, 19, 20, 21, 22, 23, 24, 28] G A G' A' ∧ Pf nd A A' ∧ Fx sr (sy) A A' ∧ Fx [14] (vi) A A' ∧ ((-2147483648 : Int) ≤ r ∧ r ≤ 2147483647) ∧ G' 9 = ln2 ∧ G' 10 = at2 ∧ G' 16 = fk2 ∧ G' 31 = nd2 ∧ G' 19 = sy2 ∧ G' 28 = na2 ∧ G' 29 = vi2 ∧ A' 3 (ln2).toNat = lf2 ∧ ecn A' (G' 31) = ec2 ∧ (at0 ≤ at2) ∧ (nd ≤ nd2) ∧ (sy ≤ sy2) ∧ (sy2 ≤ na2 + 2) ∧ (vi ≤ vi2) ∧ (vi2 ≤ vi + 1) ∧ (0 ≤ r) ∧ (r ≤ 6999) ∧ (ln ≤ ln2) ∧ (ln2 ≤ li) ∧ (((1 ≤ fk2) ∧ (nd2 - nd ≤ 2 * at2 - (2 * at0 - tz tk0) + 14)) ∨ ((fk2 = 0) ∧ (vi2 = vi) ∧ (ln < ln2) ∧ (nd2 - nd ≤ 2 * at2 - (2 * at0 - tz tk0)) ∧ (at2 < lf2 ∨ li ≤ ln2) ∧ (nd ≤ r) ∧ (r < nd2) ∧ (wSt A' (sy2) pb (wP A' (sy2) pb (k)) (Vs) (r) (nd) (nd2) (sy) (sy2)) ∧ (NX A' (r)) ∧ (nd2 - nd + 5 * (ec2 - ec) ≤ 2 * at2 - (2 * at0 - tz tk0))))) := by
  have hF0 : Fr [9, 10, 11, 12, 13, 14, 15, 16, 17, 18, 19, 28, 29, 31] [6, 7, 8, 9, 10, 11, 12, 14, 15, 16, 17, 18, 19, 20, 21, 22, 23, 24, 28] G A G A := Fr_rf
  have hP0 : Pf nd A A := Pf_rf
  have hS0 : Fx sr (sy) A A := Fx_rf
  have hV0 : Fx [14] (vi) A A := Fx_rf
  have b_ln : (0 : Int) ≤ ln ∧ ln ≤ 3000 := e_ln ▸ hW.1 9
  have b_li : (0 : Int) ≤ li ∧ li ≤ 3000 := e_li ▸ hW.1 3
  have b_at0 : (0 : Int) ≤ at0 ∧ at0 ≤ 3002 := e_at0 ▸ hW.1 10
  have b_fk : (0 : Int) ≤ fk ∧ fk ≤ 6 := e_fk ▸ hW.1 16
  have b_nd : (0 : Int) ≤ nd ∧ nd ≤ 6999 := e_nd ▸ hW.1 31
  have b_sy : (0 : Int) ≤ sy ∧ sy ≤ 202 := e_sy ▸ hW.1 19
  have b_na : (0 : Int) ≤ na ∧ na ≤ 200 := e_na ▸ hW.1 28
  have b_vi : (0 : Int) ≤ vi ∧ vi ≤ 202 := e_vi ▸ hW.1 29
  have b_le : (0 : Int) ≤ le ∧ le ≤ 3000 := e_le ▸ hW.2 4 _
  have b_op0 : (-2147483648 : Int) ≤ op0 ∧ op0 ≤ 2147483647 := e_op0 ▸ hW.1 15
  have z_tk0 := tz_f tk0
  have b_tk0 : (0 : Int) ≤ tk0 ∧ tk0 ≤ 5 := e_tk0 ▸ hW.1 11
  intro L Gx Ax n at1 tk1 fk1 nd1 op1 sy1 na1 ec1 gL_0 gL_1 gL_2 hWx hFx hPx hSx hVx ex_at1 ex_tk1 ex_fk1 ex_nd1 ex_op1 ex_sy1 ex_na1 ex_ec1 fx_9 fx_29 rx_n iv_0 iv_1 iv_2 iv_3 iv_4 iv_5 iv_6 iv_7
  have b_at1 : (0 : Int) ≤ at1 ∧ at1 ≤ 3002 := ex_at1 ▸ hWx.1 10
  have z_tk1 := tz_f tk1
  have b_tk1 : (0 : Int) ≤ tk1 ∧ tk1 ≤ 5 := ex_tk1 ▸ hWx.1 11
  have b_fk1 : (0 : Int) ≤ fk1 ∧ fk1 ≤ 6 := ex_fk1 ▸ hWx.1 16
  have b_nd1 : (0 : Int) ≤ nd1 ∧ nd1 ≤ 6999 := ex_nd1 ▸ hWx.1 31
  have b_op1 : (-2147483648 : Int) ≤ op1 ∧ op1 ≤ 2147483647 := ex_op1 ▸ hWx.1 15
  have b_sy1 : (0 : Int) ≤ sy1 ∧ sy1 ≤ 202 := ex_sy1 ▸ hWx.1 19
  have b_na1 : (0 : Int) ≤ na1 ∧ na1 ≤ 200 := ex_na1 ▸ hWx.1 28
  refine jx_ld (pc' := 133) (l' := L) (st' := [.ref 66]) rfl (jl_aloadn gL_0) ?_
  refine jx_vr (pc' := 136) (as := []) (st := []) rfl rfl rfl rfl ⟨rfl, rfl, Nat.le_of_ble_eq_true rfl⟩ rfl rfl (c_endLine (dd := d) (hd := by omega) (hW := hWx)  (ln := ln) (e_ln := show Gx 9 = ln from (fx_9)) (li := li) (e_li := show Gx 3 = li from ((hFx.1 3 rfl).trans (e_li))) (fk := fk1) (e_fk := show Gx 16 = fk1 from (ex_fk1)) (tk0 := tk1) (e_tk0 := show Gx 11 = tk1 from (ex_tk1))    (p_0 := by omega)) (fun o V' hq => ?_)
  obtain ⟨G1, A2, ln2_3, fk2_4, rfl, rfl, hW5, hF6, e7, e8, q9⟩ := hq
  have hF10 := Fr_tr hFx hF6 (Fr_sub (by decide)) (Fr_sub (by decide))
  have hP11 := Pf_f hPx hF6 (by decide)
  have hS12 := Fx_f hSx hF6 (by decide)
  have hV13 := Fx_f hVx hF6 (by decide)
  have ec14 : ecn A2 (G1 31) = ec1 := (ecn_f (hF6.2 15 rfl) (hF6.1 31 rfl)).trans ex_ec1
  have bln2_3 : (0 : Int) ≤ ln2_3 ∧ ln2_3 ≤ 3000 := e7 ▸ hW5.1 9
  have bfk2_4 : (0 : Int) ≤ fk2_4 ∧ fk2_4 ≤ 6 := e8 ▸ hW5.1 16
  refine .inl ⟨rfl, ?_⟩
  rcases q9 with ⟨a15, a16, a17, a18, a19⟩ | ⟨a20, a21⟩
  · have _q : True := trivial
    exfalso
    omega
  · have _q : True := trivial
    refine jx_ld (pc' := 137) (l' := L) (st' := [.ref 66]) rfl (jl_aloadn gL_0) ?_
    refine jx_ld (pc' := 138) (l' := L) (st' := [.int (i32 (n)), .ref 66]) rfl (jl_iloadn gL_2) ?_
    refine jx_ld (pc' := 139) (l' := L) (st' := [.int (i32 (lv)), .int (i32 (n)), .ref 66]) rfl (jl_iloadn gL_1) ?_
    refine jx_vr (pc' := 142) (as := [.int (i32 (n)), .int (i32 (lv))]) (st := []) rfl rfl rfl rfl ⟨rfl, rfl, Nat.le_of_ble_eq_true rfl⟩ rfl rfl (c_readIndexed_f (dd := d) (hd := by omega) (hW := hW5) (n := n) (lv := lv) (fk := fk2_4) (e_fk := show G1 16 = fk2_4 from (e8))  (h_n := ⟨(Int.le_trans (by decide : (-2147483648 : Int) ≤ -2147483648) rx_n.1), (Int.le_trans rx_n.2 (by decide : (2147483647 : Int) ≤ 2147483647))⟩) (h_lv := ⟨(Int.le_trans (by decide : (-2147483648 : Int) ≤ -2147483648) h_lv.1), (Int.le_trans h_lv.2 (by decide : (2147483647 : Int) ≤ 2147483647))⟩)  (p_0 := by omega)) (fun o V' hq => ?_)
    obtain ⟨r22, rfl, rfl, b23, p24, -⟩ := hq
    refine .inr ⟨_, rfl, ?_⟩
    refine jx_rt (v := some (.int (i32 (r22)))) rfl rfl rfl rfl rfl rfl ?_
    exact ⟨_, _, _, ln2_3, at1, fk2_4, nd1, sy1, na1, vi, A 3 (ln2_3).toNat, ec1, rfl, rfl, hW5, hF10, hP11, hS12, hV13, by omega, (e7), ((hF6.1 10 rfl).trans (ex_at1)), (e8), ((hF6.1 31 rfl).trans (ex_nd1)), ((hF6.1 19 rfl).trans (ex_sy1)), ((hF6.1 28 rfl).trans (ex_na1)), ((hF6.1 29 rfl).trans (fx_29)), (congrFun ((hF6.2 3 rfl).trans (hFx.2 3 rfl)) _), ec14, by omega, by omega, by omega, by omega, by omega, by omega, by omega, by omega, by omega, by omega, by first | exact Or.inl (⟨by omega, by omega⟩)⟩
set_option maxRecDepth 20000 in
set_option maxHeartbeats 4000000 in
theorem c_readPar_w_at_119p {X : jX} {k : Nat} (hP : RPw X k) {d : Nat} {Vs : Nat → Prop} {sb pb : Int} (hvb : VB Vs sb) {c0 c1 : jC} {G : Nat → Int} {A : Nat → Nat → Int} {T : jH} {lv : Int} {ln li at0 fk nd sy na vi le op0 tk0 ec : Int} (hd : 8 * k + 82 ≤ d + 1) (hW : Wk G A) (e_ln : G 9 = ln) (e_li : G 3 = li) (e_at0 : G 10 = at0) (e_fk : G 16 = fk) (e_nd : G 31 = nd) (e_sy : G 19 = sy) (e_na : G 28 = na) (e_vi : G 29 = vi) (e_le : A 4 (ln).toNat = le) (e_op0 : G 15 = op0) (e_tk0 : G 11 = tk0) (e_ec : ecn A (G 31) = ec) (i_LT : LT G A) (i_SV : SV Vs sb G A) (i_PQ : PQ Vs sb pb G A) (h_lv : (-2147483648 : Int) ≤ lv ∧ lv ≤ 2147483647) (p_0 : 0 ≤ lv ∧ lv ≤ 15) (p_1 : 18 - lv ≤ ((k + 1 : Nat) : Int)) (p_2 : fk = 0) (p_3 : ln < li) (p_4 : at0 ≤ le) (p_5 : op0 = 0) (p_6 : nd ≤ 2 * at0 - tz tk0 + 30) (p_7 : sy ≤ na + 2) (p_8 : vi ≤ sy) (p_9 : sb = sy) (p_10 : 1 ≤ tk0) : ∀ (L : jL) (Gx : Nat → Int) (Ax : Nat → Nat → Int) (n at1 tk1 fk1 nd1 op1 sy1 na1 ec1 : Int), jGet L 0 = some (.ref 66) → jGet L 1 = some (.int (i32 (lv))) → jGet L 2 = some (.int (i32 n)) → Wk Gx Ax → Fr [9, 10, 11, 12, 13, 14, 15, 16, 17, 18, 19, 28, 29, 31] [6, 7, 8, 9, 10, 11, 12, 14, 15, 16, 17, 18, 19, 20, 21, 22, 23, 24, 28] G A Gx Ax → Pf nd A Ax → Fx sr (sy) A Ax → Fx [14] (vi) A Ax → Gx 10 = at1 → Gx 11 = tk1 → Gx 16 = fk1 → Gx 31 = nd1 → Gx 15 = op1 → Gx 19 = sy1 → Gx 28 = na1 → ecn Ax (Gx 31) = ec1 → Gx 9 = ln → Gx 29 = vi → ((-2147483648 : Int) ≤ n ∧ n ≤ 2147483647) → (1 ≤ fk1) → (at0 ≤ at1) → (at1 ≤ le) → (nd ≤ n ∧ n ≤ 6998 ∧ n < nd1) → (sy ≤ sy1) → (sy1 ≤ na1 + 2) → (0 ≤ op1 ∧ op1 ≤ 9) → (nd1 - nd ≤ 2 * at1 - 2 * at0 + 8) → wj X d jm299 (119, L, [], rV c0 c1 Gx Ax T) (fun o V' => ∃ (G' : Nat → Int) (A' : Nat → Nat → Int) (r : Int) (ln2 : Int) (at2 : Int) (fk2 : Int) (nd2 : Int) (sy2 : Int) (na2 : Int) (vi2 : Int) (lf2 : Int) (ec2 : Int), V' = rV c0 c1 G' A' T ∧ o = .inl (some (.int (i32 r))) ∧ Wk G' A' ∧ Fr [9, 10, 11, 12, 13, 14, 15, 16, 17, 18, 19, 28, 29, 31] [6, 7, 8, 9, 10, 11, 12, 14, 15, 16, 17, 18, 19, 20, 21, 22, 23, 24, 28] G A G' A' ∧ Pf nd A A' ∧ Fx sr (sy) A A' ∧ Fx [14] (vi) A A' ∧ ((-2147483648 : Int) ≤ r ∧ r ≤ 2147483647) ∧ G' 9 = ln2 ∧ G' 10 = at2 ∧ G' 16 = fk2 ∧ G' 31 = nd2 ∧ G' 19 = sy2 ∧ G' 28 = na2 ∧ G' 29 = vi2 ∧ A' 3 (ln2).toNat = lf2 ∧ ecn A' (G' 31) = ec2 ∧ (at0 ≤ at2) ∧ (nd ≤ nd2) ∧ (sy ≤ sy2) ∧ (sy2 ≤ na2 + 2) ∧ (vi ≤ vi2) ∧ (vi2 ≤ vi + 1) ∧ (0 ≤ r) ∧ (r ≤ 6999) ∧ (ln ≤ ln2) ∧ (ln2 ≤ li) ∧ (((1 ≤ fk2) ∧ (nd2 - nd ≤ 2 * at2 - (2 * at0 - tz tk0) + 14)) ∨ ((fk2 = 0) ∧ (vi2 = vi) ∧ (ln < ln2) ∧ (nd2 - nd ≤ 2 * at2 - (2 * at0 - tz tk0)) ∧ (at2 < lf2 ∨ li ≤ ln2) ∧ (nd ≤ r) ∧ (r < nd2) ∧ (wSt A' (sy2) pb (wP A' (sy2) pb (k)) (Vs) (r) (nd) (nd2) (sy) (sy2)) ∧ (NX A' (r)) ∧ (nd2 - nd + 5 * (ec2 - ec) ≤ 2 * at2 - (2 * at0 - tz tk0))))) := by
  have hF0 : Fr [9, 10, 11, 12, 13, 14, 15, 16, 17, 18, 19, 28, 29, 31] [6, 7, 8, 9, 10, 11, 12, 14, 15, 16, 17, 18, 19, 20, 21, 22, 23, 24, 28] G A G A := Fr_rf
  have hP0 : Pf nd A A := Pf_rf
  have hS0 : Fx sr (sy) A A := Fx_rf
  have hV0 : Fx [14] (vi) A A := Fx_rf
  have b_ln : (0 : Int) ≤ ln ∧ ln ≤ 3000 := e_ln ▸ hW.1 9
  have b_li : (0 : Int) ≤ li ∧ li ≤ 3000 := e_li ▸ hW.1 3
  have b_at0 : (0 : Int) ≤ at0 ∧ at0 ≤ 3002 := e_at0 ▸ hW.1 10
  have b_fk : (0 : Int) ≤ fk ∧ fk ≤ 6 := e_fk ▸ hW.1 16
  have b_nd : (0 : Int) ≤ nd ∧ nd ≤ 6999 := e_nd ▸ hW.1 31
  have b_sy : (0 : Int) ≤ sy ∧ sy ≤ 202 := e_sy ▸ hW.1 19
  have b_na : (0 : Int) ≤ na ∧ na ≤ 200 := e_na ▸ hW.1 28
  have b_vi : (0 : Int) ≤ vi ∧ vi ≤ 202 := e_vi ▸ hW.1 29
  have b_le : (0 : Int) ≤ le ∧ le ≤ 3000 := e_le ▸ hW.2 4 _
  have b_op0 : (-2147483648 : Int) ≤ op0 ∧ op0 ≤ 2147483647 := e_op0 ▸ hW.1 15
  have z_tk0 := tz_f tk0
  have b_tk0 : (0 : Int) ≤ tk0 ∧ tk0 ≤ 5 := e_tk0 ▸ hW.1 11
  intro L Gx Ax n at1 tk1 fk1 nd1 op1 sy1 na1 ec1 gL_0 gL_1 gL_2 hWx hFx hPx hSx hVx ex_at1 ex_tk1 ex_fk1 ex_nd1 ex_op1 ex_sy1 ex_na1 ex_ec1 fx_9 fx_29 rx_n iv_0 iv_1 iv_2 iv_3 iv_4 iv_5 iv_6 iv_7
  have b_at1 : (0 : Int) ≤ at1 ∧ at1 ≤ 3002 := ex_at1 ▸ hWx.1 10
  have z_tk1 := tz_f tk1
  have b_tk1 : (0 : Int) ≤ tk1 ∧ tk1 ≤ 5 := ex_tk1 ▸ hWx.1 11
  have b_fk1 : (0 : Int) ≤ fk1 ∧ fk1 ≤ 6 := ex_fk1 ▸ hWx.1 16
  have b_nd1 : (0 : Int) ≤ nd1 ∧ nd1 ≤ 6999 := ex_nd1 ▸ hWx.1 31
  have b_op1 : (-2147483648 : Int) ≤ op1 ∧ op1 ≤ 2147483647 := ex_op1 ▸ hWx.1 15
  have b_sy1 : (0 : Int) ≤ sy1 ∧ sy1 ≤ 202 := ex_sy1 ▸ hWx.1 19
  have b_na1 : (0 : Int) ≤ na1 ∧ na1 ≤ 200 := ex_na1 ▸ hWx.1 28
  refine jx_ld (pc' := 120) (l' := L) (st' := [.ref 66]) rfl (jl_aloadn gL_0) ?_
  refine jr_get (pc' := 123) (i := 37) (v := .ref 87) rfl rfl (by decide) rfl rfl ?_
  refine jx_ld (pc' := 124) (l' := L) (st' := [.int (i32 (n)), .ref 87]) rfl (jl_iloadn gL_2) ?_
  refine jx_ld (pc' := 125) (l' := L) (st' := [.ref 66, .int (i32 (n)), .ref 87]) rfl (jl_aloadn gL_0) ?_
  refine jx_ar (pc' := 126) (st' := [.int (i32 (1)), .ref 66, .int (i32 (n)), .ref 87]) rfl rfl rfl rfl ?_
  refine jx_ar (pc' := 128) (st' := [.int (i32 (8)), .int (i32 (1)), .ref 66, .int (i32 (n)), .ref 87]) rfl rfl rfl rfl ?_
  refine jx_vr (pc' := 131) (as := [.int (i32 (1)), .int (i32 (8))]) (st := [.int (i32 (n)), .ref 87]) rfl rfl rfl rfl ⟨rfl, rfl, Nat.le_of_ble_eq_true rfl⟩ rfl rfl (c_needNumber (dd := d) (hd := by omega) (hW := hWx) (lo := 1) (hi := 8) (ln := ln) (e_ln := show Gx 9 = ln from (fx_9)) (le := le) (e_le := show Ax 4 (ln).toNat = le from (congrFun (hFx.2 4 rfl) _).trans (e_le)) (at0 := at1) (e_at0 := show Gx 10 = at1 from (ex_at1)) (fk := fk1) (e_fk := show Gx 16 = fk1 from (ex_fk1)) (tk0 := tk1) (e_tk0 := show Gx 11 = tk1 from (ex_tk1))  (h_lo := ⟨(by decide), (by decide)⟩) (h_hi := ⟨(by decide), (by decide)⟩)  (p_0 := by omega)) (fun o V' hq => ?_)
  obtain ⟨G26, A27, r28, at2_29, tk2_30, fk2_31, rfl, rfl, hW32, hF33, b34, e35, e36, e37, p38, p39, q40⟩ := hq
  have hF41 := Fr_tr hFx hF33 (Fr_sub (by decide)) (Fr_sub (by decide))
  have hP42 := Pf_f hPx hF33 (by decide)
  have hS43 := Fx_f hSx hF33 (by decide)
  have hV44 := Fx_f hVx hF33 (by decide)
  have ec45 : ecn A27 (G26 31) = ec1 := (ecn_f (hF33.2 15 rfl) (hF33.1 31 rfl)).trans ex_ec1
  have bat2_29 : (0 : Int) ≤ at2_29 ∧ at2_29 ≤ 3002 := e35 ▸ hW32.1 10
  have ztk2_30 := tz_b tk2_30
  have btk2_30 : (0 : Int) ≤ tk2_30 ∧ tk2_30 ≤ 5 := e36 ▸ hW32.1 11
  have bfk2_31 : (0 : Int) ≤ fk2_31 ∧ fk2_31 ≤ 6 := e37 ▸ hW32.1 16
  refine .inr ⟨_, rfl, ?_⟩
  rcases q40 with ⟨a46, a47, a48, a49⟩ | ⟨a50, a51, a52, a53, a54⟩
  · have _q : True := trivial
    refine jr_st (pc' := 132) (i := 20) (m := 7000) (z := n) (y := r28) rfl (by decide) rfl (by decide) (by omega) (by omega) rfl ?_
    have hW56 : Wk G26 (uA A27 20 (n).toNat (r28)) := Wk_a hW32 (show (-2147483648 : Int) ≤ r28 by omega) (show r28 ≤ (2147483647 : Int) by omega)
    have hF57 := Fr_a (z := r28) (k := 20) (n := (n).toNat) hF41 (by decide)
    obtain ⟨A55, eA55⟩ : ∃ q, q = uA A27 20 (n).toNat (r28) := ⟨_, rfl⟩
    rw [← eA55]
    rw [← eA55] at hW56 hF57
    have q58 : A55 20 (n).toNat = r28 := by rw [eA55]; exact uA_eq
    have hP59 : Pf nd A A55 := eA55 ▸ Pf_a hP42 (z := n) (by omega) (by omega)
    have hS60 : Fx sr (sy) A A55 := eA55 ▸ Fx_n hS43 rfl
    have hV61 : Fx [14] (vi) A A55 := eA55 ▸ Fx_n hV44 rfl
    have ec62 : ecn A55 (G26 31) = ec1 := (ecn_e ((congrFun eA55 15).trans (uA_ne (by decide)))).trans ec45
    have z63 := tz_f (tk2_30)
    exact c_readPar_w_at_132p (X := X) (k := k) (hP := hP) (d := d) (Vs := Vs) (sb := sb) (pb := pb) (hvb := hvb) (c0 := c0) (c1 := c1) (G := G) (A := A) (T := T) (lv := lv) (ln := ln) (li := li) (at0 := at0) (fk := fk) (nd := nd) (sy := sy) (na := na) (vi := vi) (le := le) (op0 := op0) (tk0 := tk0) (ec := ec) (hd := hd) (hW := hW) (e_ln := e_ln) (e_li := e_li) (e_at0 := e_at0) (e_fk := e_fk) (e_nd := e_nd) (e_sy := e_sy) (e_na := e_na) (e_vi := e_vi) (e_le := e_le) (e_op0 := e_op0) (e_tk0 := e_tk0) (e_ec := e_ec) (i_LT := i_LT) (i_SV := i_SV) (i_PQ := i_PQ) (h_lv := h_lv) (p_0 := p_0) (p_1 := p_1) (p_2 := p_2) (p_3 := p_3) (p_4 := p_4) (p_5 := p_5) (p_6 := p_6) (p_7 := p_7) (p_8 := p_8) (p_9 := p_9) (p_10 := p_10) L G26 A55 (n) (at2_29) (tk2_30) (fk2_31) (nd1) (op1) (sy1) (na1) (ec1) gL_0 gL_1 gL_2 hW56 hF57 hP59 hS60 hV61 ((e35)) ((e36)) ((e37)) (((hF33.1 31 rfl).trans (ex_nd1))) (((hF33.1 15 rfl).trans (ex_op1))) (((hF33.1 19 rfl).trans (ex_sy1))) (((hF33.1 28 rfl).trans (ex_na1))) (ec62) (((hF33.1 9 rfl).trans (fx_9))) (((hF33.1 29 rfl).trans (fx_29))) (by omega) (by omega) (by omega) (by omega) (by omega) (by omega) (by omega) (by omega) (by omega)
  · have _q : True := trivial
    exfalso
    omega
set_option maxRecDepth 20000 in
set_option maxHeartbeats 4000000 in
theorem c_readPar_w_at_109p {X : jX} {k : Nat} (hP : RPw X k) {d : Nat} {Vs : Nat → Prop} {sb pb : Int} (hvb : VB Vs sb) {c0 c1 : jC} {G : Nat → Int} {A : Nat → Nat → Int} {T : jH} {lv : Int} {ln li at0 fk nd sy na vi le op0 tk0 ec : Int} (hd : 8 * k + 82 ≤ d + 1) (hW : Wk G A) (e_ln : G 9 = ln) (e_li : G 3 = li) (e_at0 : G 10 = at0) (e_fk : G 16 = fk) (e_nd : G 31 = nd) (e_sy : G 19 = sy) (e_na : G 28 = na) (e_vi : G 29 = vi) (e_le : A 4 (ln).toNat = le) (e_op0 : G 15 = op0) (e_tk0 : G 11 = tk0) (e_ec : ecn A (G 31) = ec) (i_LT : LT G A) (i_SV : SV Vs sb G A) (i_PQ : PQ Vs sb pb G A) (h_lv : (-2147483648 : Int) ≤ lv ∧ lv ≤ 2147483647) (p_0 : 0 ≤ lv ∧ lv ≤ 15) (p_1 : 18 - lv ≤ ((k + 1 : Nat) : Int)) (p_2 : fk = 0) (p_3 : ln < li) (p_4 : at0 ≤ le) (p_5 : op0 = 0) (p_6 : nd ≤ 2 * at0 - tz tk0 + 30) (p_7 : sy ≤ na + 2) (p_8 : vi ≤ sy) (p_9 : sb = sy) (p_10 : 1 ≤ tk0) : ∀ (L : jL) (Gx : Nat → Int) (Ax : Nat → Nat → Int) (n at1 tk1 fk1 nd1 op1 sy1 na1 ec1 : Int), jGet L 0 = some (.ref 66) → jGet L 1 = some (.int (i32 (lv))) → jGet L 2 = some (.int (i32 n)) → Wk Gx Ax → Fr [9, 10, 11, 12, 13, 14, 15, 16, 17, 18, 19, 28, 29, 31] [6, 7, 8, 9, 10, 11, 12, 14, 15, 16, 17, 18, 19, 20, 21, 22, 23, 24, 28] G A Gx Ax → Pf nd A Ax → Fx sr (sy) A Ax → Fx [14] (vi) A Ax → Gx 10 = at1 → Gx 11 = tk1 → Gx 16 = fk1 → Gx 31 = nd1 → Gx 15 = op1 → Gx 19 = sy1 → Gx 28 = na1 → ecn Ax (Gx 31) = ec1 → Gx 9 = ln → Gx 29 = vi → ((-2147483648 : Int) ≤ n ∧ n ≤ 2147483647) → (1 ≤ fk1) → (at0 ≤ at1) → (at1 ≤ le) → (nd ≤ n ∧ n ≤ 6998 ∧ n < nd1) → (sy ≤ sy1) → (sy1 ≤ na1 + 2) → (0 ≤ op1 ∧ op1 ≤ 9) → (nd1 - nd ≤ 2 * at1 - 2 * at0 + 8) → wj X d jm299 (109, L, [], rV c0 c1 Gx Ax T) (fun o V' => ∃ (G' : Nat → Int) (A' : Nat → Nat → Int) (r : Int) (ln2 : Int) (at2 : Int) (fk2 : Int) (nd2 : Int) (sy2 : Int) (na2 : Int) (vi2 : Int) (lf2 : Int) (ec2 : Int), V' = rV c0 c1 G' A' T ∧ o = .inl (some (.int (i32 r))) ∧ Wk G' A' ∧ Fr [9, 10, 11, 12, 13, 14, 15, 16, 17, 18, 19, 28, 29, 31] [6, 7, 8, 9, 10, 11, 12, 14, 15, 16, 17, 18, 19, 20, 21, 22, 23, 24, 28] G A G' A' ∧ Pf nd A A' ∧ Fx sr (sy) A A' ∧ Fx [14] (vi) A A' ∧ ((-2147483648 : Int) ≤ r ∧ r ≤ 2147483647) ∧ G' 9 = ln2 ∧ G' 10 = at2 ∧ G' 16 = fk2 ∧ G' 31 = nd2 ∧ G' 19 = sy2 ∧ G' 28 = na2 ∧ G' 29 = vi2 ∧ A' 3 (ln2).toNat = lf2 ∧ ecn A' (G' 31) = ec2 ∧ (at0 ≤ at2) ∧ (nd ≤ nd2) ∧ (sy ≤ sy2) ∧ (sy2 ≤ na2 + 2) ∧ (vi ≤ vi2) ∧ (vi2 ≤ vi + 1) ∧ (0 ≤ r) ∧ (r ≤ 6999) ∧ (ln ≤ ln2) ∧ (ln2 ≤ li) ∧ (((1 ≤ fk2) ∧ (nd2 - nd ≤ 2 * at2 - (2 * at0 - tz tk0) + 14)) ∨ ((fk2 = 0) ∧ (vi2 = vi) ∧ (ln < ln2) ∧ (nd2 - nd ≤ 2 * at2 - (2 * at0 - tz tk0)) ∧ (at2 < lf2 ∨ li ≤ ln2) ∧ (nd ≤ r) ∧ (r < nd2) ∧ (wSt A' (sy2) pb (wP A' (sy2) pb (k)) (Vs) (r) (nd) (nd2) (sy) (sy2)) ∧ (NX A' (r)) ∧ (nd2 - nd + 5 * (ec2 - ec) ≤ 2 * at2 - (2 * at0 - tz tk0))))) := by
  have hF0 : Fr [9, 10, 11, 12, 13, 14, 15, 16, 17, 18, 19, 28, 29, 31] [6, 7, 8, 9, 10, 11, 12, 14, 15, 16, 17, 18, 19, 20, 21, 22, 23, 24, 28] G A G A := Fr_rf
  have hP0 : Pf nd A A := Pf_rf
  have hS0 : Fx sr (sy) A A := Fx_rf
  have hV0 : Fx [14] (vi) A A := Fx_rf
  have b_ln : (0 : Int) ≤ ln ∧ ln ≤ 3000 := e_ln ▸ hW.1 9
  have b_li : (0 : Int) ≤ li ∧ li ≤ 3000 := e_li ▸ hW.1 3
  have b_at0 : (0 : Int) ≤ at0 ∧ at0 ≤ 3002 := e_at0 ▸ hW.1 10
  have b_fk : (0 : Int) ≤ fk ∧ fk ≤ 6 := e_fk ▸ hW.1 16
  have b_nd : (0 : Int) ≤ nd ∧ nd ≤ 6999 := e_nd ▸ hW.1 31
  have b_sy : (0 : Int) ≤ sy ∧ sy ≤ 202 := e_sy ▸ hW.1 19
  have b_na : (0 : Int) ≤ na ∧ na ≤ 200 := e_na ▸ hW.1 28
  have b_vi : (0 : Int) ≤ vi ∧ vi ≤ 202 := e_vi ▸ hW.1 29
  have b_le : (0 : Int) ≤ le ∧ le ≤ 3000 := e_le ▸ hW.2 4 _
  have b_op0 : (-2147483648 : Int) ≤ op0 ∧ op0 ≤ 2147483647 := e_op0 ▸ hW.1 15
  have z_tk0 := tz_f tk0
  have b_tk0 : (0 : Int) ≤ tk0 ∧ tk0 ≤ 5 := e_tk0 ▸ hW.1 11
  intro L Gx Ax n at1 tk1 fk1 nd1 op1 sy1 na1 ec1 gL_0 gL_1 gL_2 hWx hFx hPx hSx hVx ex_at1 ex_tk1 ex_fk1 ex_nd1 ex_op1 ex_sy1 ex_na1 ex_ec1 fx_9 fx_29 rx_n iv_0 iv_1 iv_2 iv_3 iv_4 iv_5 iv_6 iv_7
  have b_at1 : (0 : Int) ≤ at1 ∧ at1 ≤ 3002 := ex_at1 ▸ hWx.1 10
  have z_tk1 := tz_f tk1
  have b_tk1 : (0 : Int) ≤ tk1 ∧ tk1 ≤ 5 := ex_tk1 ▸ hWx.1 11
  have b_fk1 : (0 : Int) ≤ fk1 ∧ fk1 ≤ 6 := ex_fk1 ▸ hWx.1 16
  have b_nd1 : (0 : Int) ≤ nd1 ∧ nd1 ≤ 6999 := ex_nd1 ▸ hWx.1 31
  have b_op1 : (-2147483648 : Int) ≤ op1 ∧ op1 ≤ 2147483647 := ex_op1 ▸ hWx.1 15
  have b_sy1 : (0 : Int) ≤ sy1 ∧ sy1 ≤ 202 := ex_sy1 ▸ hWx.1 19
  have b_na1 : (0 : Int) ≤ na1 ∧ na1 ≤ 200 := ex_na1 ▸ hWx.1 28
  refine jx_ld (pc' := 110) (l' := L) (st' := [.ref 66]) rfl (jl_aloadn gL_0) ?_
  refine jx_ld (pc' := 111) (l' := L) (st' := [.ref 66, .ref 66]) rfl (jl_aloadn gL_0) ?_
  refine jx_ar (pc' := 113) (st' := [.int (i32 (13)), .ref 66, .ref 66]) rfl rfl rfl rfl ?_
  have b64 : (-2147483648 : Int) ≤ Gx 13 ∧ Gx 13 ≤ 2147483647 := hWx.1 13
  refine jx_vr (pc' := 116) (as := [.int (i32 (13))]) (st := [.ref 66]) rfl rfl rfl rfl ⟨rfl, rfl, Nat.le_of_ble_eq_true rfl⟩ rfl rfl (c_isKey (dd := d) (hd := by omega) (hW := hWx) (k := 13) (tk := tk1) (e_tk := show Gx 11 = tk1 from (ex_tk1)) (tn := Gx 13) (e_tn := show Gx 13 = Gx 13 from rfl)  (h_k := ⟨(by decide), (by decide)⟩)  ) (fun o V' hq => ?_)
  obtain ⟨r65, rfl, rfl, b66, q67⟩ := hq
  refine .inr ⟨_, rfl, ?_⟩
  rcases q67 with ⟨rfl, a68, a69, a70⟩ | rfl
  · have _q : True := trivial
    refine jx_vr (pc' := 119) (as := [.int (i32 (1))]) (st := []) rfl rfl rfl rfl ⟨rfl, rfl, Nat.le_of_ble_eq_true rfl⟩ rfl rfl (c_need (dd := d) (hd := by omega) (hW := hWx) (g := 1) (ln := ln) (e_ln := show Gx 9 = ln from (fx_9)) (le := le) (e_le := show Ax 4 (ln).toNat = le from (congrFun (hFx.2 4 rfl) _).trans (e_le)) (at0 := at1) (e_at0 := show Gx 10 = at1 from (ex_at1)) (fk := fk1) (e_fk := show Gx 16 = fk1 from (ex_fk1)) (tk0 := tk1) (e_tk0 := show Gx 11 = tk1 from (ex_tk1))  (h_g := ⟨(by decide), (by decide)⟩)  (p_0 := by omega)) (fun o V' hq => ?_)
    obtain ⟨G71, A72, at2_73, tk2_74, fk2_75, rfl, rfl, hW76, hF77, e78, e79, e80, p81, p82, q83⟩ := hq
    have hF84 := Fr_tr hFx hF77 (Fr_sub (by decide)) (Fr_sub (by decide))
    have hP85 := Pf_f hPx hF77 (by decide)
    have hS86 := Fx_f hSx hF77 (by decide)
    have hV87 := Fx_f hVx hF77 (by decide)
    have ec88 : ecn A72 (G71 31) = ec1 := (ecn_f (hF77.2 15 rfl) (hF77.1 31 rfl)).trans ex_ec1
    have bat2_73 : (0 : Int) ≤ at2_73 ∧ at2_73 ≤ 3002 := e78 ▸ hW76.1 10
    have ztk2_74 := tz_b tk2_74
    have btk2_74 : (0 : Int) ≤ tk2_74 ∧ tk2_74 ≤ 5 := e79 ▸ hW76.1 11
    have bfk2_75 : (0 : Int) ≤ fk2_75 ∧ fk2_75 ≤ 6 := e80 ▸ hW76.1 16
    refine .inl ⟨rfl, ?_⟩
    rcases q83 with ⟨a89, a90, a91, a92⟩ | ⟨a93, a94, a95, a96⟩
    · have _q : True := trivial
      have z97 := tz_f (tk2_74)
      exact c_readPar_w_at_119p (X := X) (k := k) (hP := hP) (d := d) (Vs := Vs) (sb := sb) (pb := pb) (hvb := hvb) (c0 := c0) (c1 := c1) (G := G) (A := A) (T := T) (lv := lv) (ln := ln) (li := li) (at0 := at0) (fk := fk) (nd := nd) (sy := sy) (na := na) (vi := vi) (le := le) (op0 := op0) (tk0 := tk0) (ec := ec) (hd := hd) (hW := hW) (e_ln := e_ln) (e_li := e_li) (e_at0 := e_at0) (e_fk := e_fk) (e_nd := e_nd) (e_sy := e_sy) (e_na := e_na) (e_vi := e_vi) (e_le := e_le) (e_op0 := e_op0) (e_tk0 := e_tk0) (e_ec := e_ec) (i_LT := i_LT) (i_SV := i_SV) (i_PQ := i_PQ) (h_lv := h_lv) (p_0 := p_0) (p_1 := p_1) (p_2 := p_2) (p_3 := p_3) (p_4 := p_4) (p_5 := p_5) (p_6 := p_6) (p_7 := p_7) (p_8 := p_8) (p_9 := p_9) (p_10 := p_10) L G71 A72 (n) (at2_73) (tk2_74) (fk2_75) (nd1) (op1) (sy1) (na1) (ec1) gL_0 gL_1 gL_2 hW76 hF84 hP85 hS86 hV87 ((e78)) ((e79)) ((e80)) (((hF77.1 31 rfl).trans (ex_nd1))) (((hF77.1 15 rfl).trans (ex_op1))) (((hF77.1 19 rfl).trans (ex_sy1))) (((hF77.1 28 rfl).trans (ex_na1))) (ec88) (((hF77.1 9 rfl).trans (fx_9))) (((hF77.1 29 rfl).trans (fx_29))) (by omega) (by omega) (by omega) (by omega) (by omega) (by omega) (by omega) (by omega) (by omega)
    · have _q : True := trivial
      exfalso
      omega
  · have _q : True := trivial
    refine jx_vr (pc' := 119) (as := [.int (i32 (0))]) (st := []) rfl rfl rfl rfl ⟨rfl, rfl, Nat.le_of_ble_eq_true rfl⟩ rfl rfl (c_need (dd := d) (hd := by omega) (hW := hWx) (g := 0) (ln := ln) (e_ln := show Gx 9 = ln from (fx_9)) (le := le) (e_le := show Ax 4 (ln).toNat = le from (congrFun (hFx.2 4 rfl) _).trans (e_le)) (at0 := at1) (e_at0 := show Gx 10 = at1 from (ex_at1)) (fk := fk1) (e_fk := show Gx 16 = fk1 from (ex_fk1)) (tk0 := tk1) (e_tk0 := show Gx 11 = tk1 from (ex_tk1))  (h_g := ⟨(by decide), (by decide)⟩)  (p_0 := by omega)) (fun o V' hq => ?_)
    obtain ⟨G98, A99, at2_100, tk2_101, fk2_102, rfl, rfl, hW103, hF104, e105, e106, e107, p108, p109, q110⟩ := hq
    have hF111 := Fr_tr hFx hF104 (Fr_sub (by decide)) (Fr_sub (by decide))
    have hP112 := Pf_f hPx hF104 (by decide)
    have hS113 := Fx_f hSx hF104 (by decide)
    have hV114 := Fx_f hVx hF104 (by decide)
    have ec115 : ecn A99 (G98 31) = ec1 := (ecn_f (hF104.2 15 rfl) (hF104.1 31 rfl)).trans ex_ec1
    have bat2_100 : (0 : Int) ≤ at2_100 ∧ at2_100 ≤ 3002 := e105 ▸ hW103.1 10
    have ztk2_101 := tz_b tk2_101
    have btk2_101 : (0 : Int) ≤ tk2_101 ∧ tk2_101 ≤ 5 := e106 ▸ hW103.1 11
    have bfk2_102 : (0 : Int) ≤ fk2_102 ∧ fk2_102 ≤ 6 := e107 ▸ hW103.1 16
    refine .inl ⟨rfl, ?_⟩
    rcases q110 with ⟨a116, a117, a118, a119⟩ | ⟨a120, a121, a122, a123⟩
    · have _q : True := trivial
      have z124 := tz_f (tk2_101)
      exact c_readPar_w_at_119p (X := X) (k := k) (hP := hP) (d := d) (Vs := Vs) (sb := sb) (pb := pb) (hvb := hvb) (c0 := c0) (c1 := c1) (G := G) (A := A) (T := T) (lv := lv) (ln := ln) (li := li) (at0 := at0) (fk := fk) (nd := nd) (sy := sy) (na := na) (vi := vi) (le := le) (op0 := op0) (tk0 := tk0) (ec := ec) (hd := hd) (hW := hW) (e_ln := e_ln) (e_li := e_li) (e_at0 := e_at0) (e_fk := e_fk) (e_nd := e_nd) (e_sy := e_sy) (e_na := e_na) (e_vi := e_vi) (e_le := e_le) (e_op0 := e_op0) (e_tk0 := e_tk0) (e_ec := e_ec) (i_LT := i_LT) (i_SV := i_SV) (i_PQ := i_PQ) (h_lv := h_lv) (p_0 := p_0) (p_1 := p_1) (p_2 := p_2) (p_3 := p_3) (p_4 := p_4) (p_5 := p_5) (p_6 := p_6) (p_7 := p_7) (p_8 := p_8) (p_9 := p_9) (p_10 := p_10) L G98 A99 (n) (at2_100) (tk2_101) (fk2_102) (nd1) (op1) (sy1) (na1) (ec1) gL_0 gL_1 gL_2 hW103 hF111 hP112 hS113 hV114 ((e105)) ((e106)) ((e107)) (((hF104.1 31 rfl).trans (ex_nd1))) (((hF104.1 15 rfl).trans (ex_op1))) (((hF104.1 19 rfl).trans (ex_sy1))) (((hF104.1 28 rfl).trans (ex_na1))) (ec115) (((hF104.1 9 rfl).trans (fx_9))) (((hF104.1 29 rfl).trans (fx_29))) (by omega) (by omega) (by omega) (by omega) (by omega) (by omega) (by omega) (by omega) (by omega)
    · have _q : True := trivial
      exfalso
      omega
set_option maxRecDepth 20000 in
set_option maxHeartbeats 4000000 in
theorem c_readPar_w_at_109 {X : jX} {k : Nat} (hP : RPw X k) {d : Nat} {Vs : Nat → Prop} {sb pb : Int} (hvb : VB Vs sb) {c0 c1 : jC} {G : Nat → Int} {A : Nat → Nat → Int} {T : jH} {lv : Int} {ln li at0 fk nd sy na vi le op0 tk0 ec : Int} (hd : 8 * k + 82 ≤ d + 1) (hW : Wk G A) (e_ln : G 9 = ln) (e_li : G 3 = li) (e_at0 : G 10 = at0) (e_fk : G 16 = fk) (e_nd : G 31 = nd) (e_sy : G 19 = sy) (e_na : G 28 = na) (e_vi : G 29 = vi) (e_le : A 4 (ln).toNat = le) (e_op0 : G 15 = op0) (e_tk0 : G 11 = tk0) (e_ec : ecn A (G 31) = ec) (i_LT : LT G A) (i_SV : SV Vs sb G A) (i_PQ : PQ Vs sb pb G A) (h_lv : (-2147483648 : Int) ≤ lv ∧ lv ≤ 2147483647) (p_0 : 0 ≤ lv ∧ lv ≤ 15) (p_1 : 18 - lv ≤ ((k + 1 : Nat) : Int)) (p_2 : fk = 0) (p_3 : ln < li) (p_4 : at0 ≤ le) (p_5 : op0 = 0) (p_6 : nd ≤ 2 * at0 - tz tk0 + 30) (p_7 : sy ≤ na + 2) (p_8 : vi ≤ sy) (p_9 : sb = sy) (p_10 : 1 ≤ tk0) : ∀ (L : jL) (Gx : Nat → Int) (Ax : Nat → Nat → Int) (n at1 tk1 fk1 nd1 op1 sy1 na1 sa1 ka1 exc ec1 : Int), jGet L 0 = some (.ref 66) → jGet L 1 = some (.int (i32 (lv))) → jGet L 2 = some (.int (i32 n)) → Wk Gx Ax → Fr [9, 10, 11, 12, 13, 14, 15, 16, 17, 18, 19, 28, 29, 31] [6, 7, 8, 9, 10, 11, 12, 14, 15, 16, 17, 18, 19, 20, 21, 22, 23, 24, 28] G A Gx Ax → Pf nd A Ax → Fx sr (sy) A Ax → Fx [14] (vi) A Ax → Gx 10 = at1 → Gx 11 = tk1 → Gx 16 = fk1 → Gx 31 = nd1 → Gx 15 = op1 → Gx 19 = sy1 → Gx 28 = na1 → Ax 17 (n).toNat = sa1 → Ax 7 (sa1).toNat = ka1 → Ax 19 (n).toNat = exc → ecn Ax (Gx 31) = ec1 → Gx 9 = ln → Gx 29 = vi → ((-2147483648 : Int) ≤ n ∧ n ≤ 2147483647) → (fk1 = 0) → (at0 ≤ at1) → (at1 ≤ le) → (n = nd) → (n ≤ 6998 ∧ n < nd1) → (sy1 = sy + 1) → (sa1 = sy) → (sy1 ≤ na1 + 2) → (op1 = 0) → (nd1 - nd ≤ (2 * at1 - tz tk1) - (2 * at0 - tz tk0)) → (ka1 = 10) → (ND Ax (n) (29) (sa1) (0) (exc) (0) (0) (0)) → (0 ≤ exc) → (nd1 = n + 1) → (nd1 - nd + 5 * (ec1 - ec) ≤ (2 * at1 - tz tk1) - (2 * at0 - tz tk0)) → wj X d jm299 (109, L, [], rV c0 c1 Gx Ax T) (fun o V' => ∃ (G' : Nat → Int) (A' : Nat → Nat → Int) (r : Int) (ln2 : Int) (at2 : Int) (fk2 : Int) (nd2 : Int) (sy2 : Int) (na2 : Int) (vi2 : Int) (lf2 : Int) (ec2 : Int), V' = rV c0 c1 G' A' T ∧ o = .inl (some (.int (i32 r))) ∧ Wk G' A' ∧ Fr [9, 10, 11, 12, 13, 14, 15, 16, 17, 18, 19, 28, 29, 31] [6, 7, 8, 9, 10, 11, 12, 14, 15, 16, 17, 18, 19, 20, 21, 22, 23, 24, 28] G A G' A' ∧ Pf nd A A' ∧ Fx sr (sy) A A' ∧ Fx [14] (vi) A A' ∧ ((-2147483648 : Int) ≤ r ∧ r ≤ 2147483647) ∧ G' 9 = ln2 ∧ G' 10 = at2 ∧ G' 16 = fk2 ∧ G' 31 = nd2 ∧ G' 19 = sy2 ∧ G' 28 = na2 ∧ G' 29 = vi2 ∧ A' 3 (ln2).toNat = lf2 ∧ ecn A' (G' 31) = ec2 ∧ (at0 ≤ at2) ∧ (nd ≤ nd2) ∧ (sy ≤ sy2) ∧ (sy2 ≤ na2 + 2) ∧ (vi ≤ vi2) ∧ (vi2 ≤ vi + 1) ∧ (0 ≤ r) ∧ (r ≤ 6999) ∧ (ln ≤ ln2) ∧ (ln2 ≤ li) ∧ (((1 ≤ fk2) ∧ (nd2 - nd ≤ 2 * at2 - (2 * at0 - tz tk0) + 14)) ∨ ((fk2 = 0) ∧ (vi2 = vi) ∧ (ln < ln2) ∧ (nd2 - nd ≤ 2 * at2 - (2 * at0 - tz tk0)) ∧ (at2 < lf2 ∨ li ≤ ln2) ∧ (nd ≤ r) ∧ (r < nd2) ∧ (wSt A' (sy2) pb (wP A' (sy2) pb (k)) (Vs) (r) (nd) (nd2) (sy) (sy2)) ∧ (NX A' (r)) ∧ (nd2 - nd + 5 * (ec2 - ec) ≤ 2 * at2 - (2 * at0 - tz tk0))))) := by
  have hF0 : Fr [9, 10, 11, 12, 13, 14, 15, 16, 17, 18, 19, 28, 29, 31] [6, 7, 8, 9, 10, 11, 12, 14, 15, 16, 17, 18, 19, 20, 21, 22, 23, 24, 28] G A G A := Fr_rf
  have hP0 : Pf nd A A := Pf_rf
  have hS0 : Fx sr (sy) A A := Fx_rf
  have hV0 : Fx [14] (vi) A A := Fx_rf
  have b_ln : (0 : Int) ≤ ln ∧ ln ≤ 3000 := e_ln ▸ hW.1 9
  have b_li : (0 : Int) ≤ li ∧ li ≤ 3000 := e_li ▸ hW.1 3
  have b_at0 : (0 : Int) ≤ at0 ∧ at0 ≤ 3002 := e_at0 ▸ hW.1 10
  have b_fk : (0 : Int) ≤ fk ∧ fk ≤ 6 := e_fk ▸ hW.1 16
  have b_nd : (0 : Int) ≤ nd ∧ nd ≤ 6999 := e_nd ▸ hW.1 31
  have b_sy : (0 : Int) ≤ sy ∧ sy ≤ 202 := e_sy ▸ hW.1 19
  have b_na : (0 : Int) ≤ na ∧ na ≤ 200 := e_na ▸ hW.1 28
  have b_vi : (0 : Int) ≤ vi ∧ vi ≤ 202 := e_vi ▸ hW.1 29
  have b_le : (0 : Int) ≤ le ∧ le ≤ 3000 := e_le ▸ hW.2 4 _
  have b_op0 : (-2147483648 : Int) ≤ op0 ∧ op0 ≤ 2147483647 := e_op0 ▸ hW.1 15
  have z_tk0 := tz_f tk0
  have b_tk0 : (0 : Int) ≤ tk0 ∧ tk0 ≤ 5 := e_tk0 ▸ hW.1 11
  intro L Gx Ax n at1 tk1 fk1 nd1 op1 sy1 na1 sa1 ka1 exc ec1 gL_0 gL_1 gL_2 hWx hFx hPx hSx hVx ex_at1 ex_tk1 ex_fk1 ex_nd1 ex_op1 ex_sy1 ex_na1 ex_sa1 ex_ka1 ex_exc ex_ec1 fx_9 fx_29 rx_n iv_0 iv_1 iv_2 iv_3 iv_4 iv_5 iv_6 iv_7 iv_8 iv_9 iv_10 iv_11 iv_12 iv_13 iv_14
  have b_at1 : (0 : Int) ≤ at1 ∧ at1 ≤ 3002 := ex_at1 ▸ hWx.1 10
  have z_tk1 := tz_f tk1
  have b_tk1 : (0 : Int) ≤ tk1 ∧ tk1 ≤ 5 := ex_tk1 ▸ hWx.1 11
  have b_fk1 : (0 : Int) ≤ fk1 ∧ fk1 ≤ 6 := ex_fk1 ▸ hWx.1 16
  have b_nd1 : (0 : Int) ≤ nd1 ∧ nd1 ≤ 6999 := ex_nd1 ▸ hWx.1 31
  have b_op1 : (-2147483648 : Int) ≤ op1 ∧ op1 ≤ 2147483647 := ex_op1 ▸ hWx.1 15
  have b_sy1 : (0 : Int) ≤ sy1 ∧ sy1 ≤ 202 := ex_sy1 ▸ hWx.1 19
  have b_na1 : (0 : Int) ≤ na1 ∧ na1 ≤ 200 := ex_na1 ▸ hWx.1 28
  refine jx_ld (pc' := 110) (l' := L) (st' := [.ref 66]) rfl (jl_aloadn gL_0) ?_
  refine jx_ld (pc' := 111) (l' := L) (st' := [.ref 66, .ref 66]) rfl (jl_aloadn gL_0) ?_
  refine jx_ar (pc' := 113) (st' := [.int (i32 (13)), .ref 66, .ref 66]) rfl rfl rfl rfl ?_
  have b125 : (-2147483648 : Int) ≤ Gx 13 ∧ Gx 13 ≤ 2147483647 := hWx.1 13
  refine jx_vr (pc' := 116) (as := [.int (i32 (13))]) (st := [.ref 66]) rfl rfl rfl rfl ⟨rfl, rfl, Nat.le_of_ble_eq_true rfl⟩ rfl rfl (c_isKey (dd := d) (hd := by omega) (hW := hWx) (k := 13) (tk := tk1) (e_tk := show Gx 11 = tk1 from (ex_tk1)) (tn := Gx 13) (e_tn := show Gx 13 = Gx 13 from rfl)  (h_k := ⟨(by decide), (by decide)⟩)  ) (fun o V' hq => ?_)
  obtain ⟨r126, rfl, rfl, b127, q128⟩ := hq
  refine .inr ⟨_, rfl, ?_⟩
  rcases q128 with ⟨rfl, a129, a130, a131⟩ | rfl
  · have _q : True := trivial
    refine jx_vr (pc' := 119) (as := [.int (i32 (1))]) (st := []) rfl rfl rfl rfl ⟨rfl, rfl, Nat.le_of_ble_eq_true rfl⟩ rfl rfl (c_need (dd := d) (hd := by omega) (hW := hWx) (g := 1) (ln := ln) (e_ln := show Gx 9 = ln from (fx_9)) (le := le) (e_le := show Ax 4 (ln).toNat = le from (congrFun (hFx.2 4 rfl) _).trans (e_le)) (at0 := at1) (e_at0 := show Gx 10 = at1 from (ex_at1)) (fk := fk1) (e_fk := show Gx 16 = fk1 from (ex_fk1)) (tk0 := tk1) (e_tk0 := show Gx 11 = tk1 from (ex_tk1))  (h_g := ⟨(by decide), (by decide)⟩)  (p_0 := by omega)) (fun o V' hq => ?_)
    obtain ⟨G132, A133, at2_134, tk2_135, fk2_136, rfl, rfl, hW137, hF138, e139, e140, e141, p142, p143, q144⟩ := hq
    have hF145 := Fr_tr hFx hF138 (Fr_sub (by decide)) (Fr_sub (by decide))
    have hP146 := Pf_f hPx hF138 (by decide)
    have hS147 := Fx_f hSx hF138 (by decide)
    have hV148 := Fx_f hVx hF138 (by decide)
    have sf149 : ND A133 (n) (29) (sa1) (0) (exc) (0) (0) (0) := ND_ag (by omega) (Ag_fr hF138 (by decide)) iv_11
    have ec150 : ecn A133 (G132 31) = ec1 := (ecn_f (hF138.2 15 rfl) (hF138.1 31 rfl)).trans ex_ec1
    have bat2_134 : (0 : Int) ≤ at2_134 ∧ at2_134 ≤ 3002 := e139 ▸ hW137.1 10
    have ztk2_135 := tz_b tk2_135
    have btk2_135 : (0 : Int) ≤ tk2_135 ∧ tk2_135 ≤ 5 := e140 ▸ hW137.1 11
    have bfk2_136 : (0 : Int) ≤ fk2_136 ∧ fk2_136 ≤ 6 := e141 ▸ hW137.1 16
    refine .inl ⟨rfl, ?_⟩
    rcases q144 with ⟨a151, a152, a153, a154⟩ | ⟨a155, a156, a157, a158⟩
    · have _q : True := trivial
      have z159 := tz_f (tk2_135)
      exact c_readPar_w_at_119p (X := X) (k := k) (hP := hP) (d := d) (Vs := Vs) (sb := sb) (pb := pb) (hvb := hvb) (c0 := c0) (c1 := c1) (G := G) (A := A) (T := T) (lv := lv) (ln := ln) (li := li) (at0 := at0) (fk := fk) (nd := nd) (sy := sy) (na := na) (vi := vi) (le := le) (op0 := op0) (tk0 := tk0) (ec := ec) (hd := hd) (hW := hW) (e_ln := e_ln) (e_li := e_li) (e_at0 := e_at0) (e_fk := e_fk) (e_nd := e_nd) (e_sy := e_sy) (e_na := e_na) (e_vi := e_vi) (e_le := e_le) (e_op0 := e_op0) (e_tk0 := e_tk0) (e_ec := e_ec) (i_LT := i_LT) (i_SV := i_SV) (i_PQ := i_PQ) (h_lv := h_lv) (p_0 := p_0) (p_1 := p_1) (p_2 := p_2) (p_3 := p_3) (p_4 := p_4) (p_5 := p_5) (p_6 := p_6) (p_7 := p_7) (p_8 := p_8) (p_9 := p_9) (p_10 := p_10) L G132 A133 (n) (at2_134) (tk2_135) (fk2_136) (nd1) (op1) (sy1) (na1) (ec1) gL_0 gL_1 gL_2 hW137 hF145 hP146 hS147 hV148 ((e139)) ((e140)) ((e141)) (((hF138.1 31 rfl).trans (ex_nd1))) (((hF138.1 15 rfl).trans (ex_op1))) (((hF138.1 19 rfl).trans (ex_sy1))) (((hF138.1 28 rfl).trans (ex_na1))) (ec150) (((hF138.1 9 rfl).trans (fx_9))) (((hF138.1 29 rfl).trans (fx_29))) (by omega) (by omega) (by omega) (by omega) (by omega) (by omega) (by omega) (by omega) (by omega)
    · have _q : True := trivial
      have pz160 : at1 + tz tk2_135 ≤ at2_134 := by omega
      refine jx_ld (pc' := 120) (l' := L) (st' := [.ref 66]) rfl (jl_aloadn gL_0) ?_
      refine jr_get (pc' := 123) (i := 37) (v := .ref 87) rfl rfl (by decide) rfl rfl ?_
      refine jx_ld (pc' := 124) (l' := L) (st' := [.int (i32 (n)), .ref 87]) rfl (jl_iloadn gL_2) ?_
      refine jx_ld (pc' := 125) (l' := L) (st' := [.ref 66, .int (i32 (n)), .ref 87]) rfl (jl_aloadn gL_0) ?_
      refine jx_ar (pc' := 126) (st' := [.int (i32 (1)), .ref 66, .int (i32 (n)), .ref 87]) rfl rfl rfl rfl ?_
      refine jx_ar (pc' := 128) (st' := [.int (i32 (8)), .int (i32 (1)), .ref 66, .int (i32 (n)), .ref 87]) rfl rfl rfl rfl ?_
      refine jx_vr (pc' := 131) (as := [.int (i32 (1)), .int (i32 (8))]) (st := [.int (i32 (n)), .ref 87]) rfl rfl rfl rfl ⟨rfl, rfl, Nat.le_of_ble_eq_true rfl⟩ rfl rfl (c_needNumber (dd := d) (hd := by omega) (hW := hW137) (lo := 1) (hi := 8) (ln := ln) (e_ln := show G132 9 = ln from ((hF138.1 9 rfl).trans (fx_9))) (le := le) (e_le := show A133 4 (ln).toNat = le from (congrFun ((hF138.2 4 rfl).trans (hFx.2 4 rfl)) _).trans (e_le)) (at0 := at2_134) (e_at0 := show G132 10 = at2_134 from (e139)) (fk := fk2_136) (e_fk := show G132 16 = fk2_136 from (e141)) (tk0 := tk2_135) (e_tk0 := show G132 11 = tk2_135 from (e140))  (h_lo := ⟨(by decide), (by decide)⟩) (h_hi := ⟨(by decide), (by decide)⟩)  (p_0 := by omega)) (fun o V' hq => ?_)
      obtain ⟨G161, A162, r163, at2_164, tk2_165, fk2_166, rfl, rfl, hW167, hF168, b169, e170, e171, e172, p173, p174, q175⟩ := hq
      have hF176 := Fr_tr hF145 hF168 (Fr_sub (by decide)) (Fr_sub (by decide))
      have hP177 := Pf_f hP146 hF168 (by decide)
      have hS178 := Fx_f hS147 hF168 (by decide)
      have hV179 := Fx_f hV148 hF168 (by decide)
      have sf180 : ND A162 (n) (29) (sa1) (0) (exc) (0) (0) (0) := ND_ag (by omega) (Ag_fr hF168 (by decide)) sf149
      have ec181 : ecn A162 (G161 31) = ec1 := (ecn_f (hF168.2 15 rfl) (hF168.1 31 rfl)).trans ec150
      have bat2_164 : (0 : Int) ≤ at2_164 ∧ at2_164 ≤ 3002 := e170 ▸ hW167.1 10
      have ztk2_165 := tz_b tk2_165
      have btk2_165 : (0 : Int) ≤ tk2_165 ∧ tk2_165 ≤ 5 := e171 ▸ hW167.1 11
      have bfk2_166 : (0 : Int) ≤ fk2_166 ∧ fk2_166 ≤ 6 := e172 ▸ hW167.1 16
      refine .inr ⟨_, rfl, ?_⟩
      rcases q175 with ⟨a182, a183, a184, a185⟩ | ⟨a186, a187, a188, a189, a190⟩
      · have _q : True := trivial
        refine jr_st (pc' := 132) (i := 20) (m := 7000) (z := n) (y := r163) rfl (by decide) rfl (by decide) (by omega) (by omega) rfl ?_
        have hW192 : Wk G161 (uA A162 20 (n).toNat (r163)) := Wk_a hW167 (show (-2147483648 : Int) ≤ r163 by omega) (show r163 ≤ (2147483647 : Int) by omega)
        have hF193 := Fr_a (z := r163) (k := 20) (n := (n).toNat) hF176 (by decide)
        obtain ⟨A191, eA191⟩ : ∃ q, q = uA A162 20 (n).toNat (r163) := ⟨_, rfl⟩
        rw [← eA191]
        rw [← eA191] at hW192 hF193
        have q194 : A191 20 (n).toNat = r163 := by rw [eA191]; exact uA_eq
        have hP195 : Pf nd A A191 := eA191 ▸ Pf_a hP177 (z := n) (by omega) (by omega)
        have hS196 : Fx sr (sy) A A191 := eA191 ▸ Fx_n hS178 rfl
        have hV197 : Fx [14] (vi) A A191 := eA191 ▸ Fx_n hV179 rfl
        have sf198 : ND A191 (n) (29) (sa1) (0) (exc) (r163) (0) (0) := ND_d eA191 sf180
        have ec199 : ecn A191 (G161 31) = ec1 := (ecn_e ((congrFun eA191 15).trans (uA_ne (by decide)))).trans ec181
        have z200 := tz_f (tk2_165)
        exact c_readPar_w_at_132p (X := X) (k := k) (hP := hP) (d := d) (Vs := Vs) (sb := sb) (pb := pb) (hvb := hvb) (c0 := c0) (c1 := c1) (G := G) (A := A) (T := T) (lv := lv) (ln := ln) (li := li) (at0 := at0) (fk := fk) (nd := nd) (sy := sy) (na := na) (vi := vi) (le := le) (op0 := op0) (tk0 := tk0) (ec := ec) (hd := hd) (hW := hW) (e_ln := e_ln) (e_li := e_li) (e_at0 := e_at0) (e_fk := e_fk) (e_nd := e_nd) (e_sy := e_sy) (e_na := e_na) (e_vi := e_vi) (e_le := e_le) (e_op0 := e_op0) (e_tk0 := e_tk0) (e_ec := e_ec) (i_LT := i_LT) (i_SV := i_SV) (i_PQ := i_PQ) (h_lv := h_lv) (p_0 := p_0) (p_1 := p_1) (p_2 := p_2) (p_3 := p_3) (p_4 := p_4) (p_5 := p_5) (p_6 := p_6) (p_7 := p_7) (p_8 := p_8) (p_9 := p_9) (p_10 := p_10) L G161 A191 (n) (at2_164) (tk2_165) (fk2_166) (nd1) (op1) (sy1) (na1) (ec1) gL_0 gL_1 gL_2 hW192 hF193 hP195 hS196 hV197 ((e170)) ((e171)) ((e172)) (((hF168.1 31 rfl).trans ((hF138.1 31 rfl).trans (ex_nd1)))) (((hF168.1 15 rfl).trans ((hF138.1 15 rfl).trans (ex_op1)))) (((hF168.1 19 rfl).trans ((hF138.1 19 rfl).trans (ex_sy1)))) (((hF168.1 28 rfl).trans ((hF138.1 28 rfl).trans (ex_na1)))) (ec199) (((hF168.1 9 rfl).trans ((hF138.1 9 rfl).trans (fx_9)))) (((hF168.1 29 rfl).trans ((hF138.1 29 rfl).trans (fx_29)))) (by omega) (by omega) (by omega) (by omega) (by omega) (by omega) (by omega) (by omega) (by omega)
      · have _q : True := trivial
        have pz201 : at2_134 + tz tk2_165 ≤ at2_164 := by omega
        refine jr_st (pc' := 132) (i := 20) (m := 7000) (z := n) (y := r163) rfl (by decide) rfl (by decide) (by omega) (by omega) rfl ?_
        have hW203 : Wk G161 (uA A162 20 (n).toNat (r163)) := Wk_a hW167 (show (-2147483648 : Int) ≤ r163 by omega) (show r163 ≤ (2147483647 : Int) by omega)
        have hF204 := Fr_a (z := r163) (k := 20) (n := (n).toNat) hF176 (by decide)
        obtain ⟨A202, eA202⟩ : ∃ q, q = uA A162 20 (n).toNat (r163) := ⟨_, rfl⟩
        rw [← eA202]
        rw [← eA202] at hW203 hF204
        have q205 : A202 20 (n).toNat = r163 := by rw [eA202]; exact uA_eq
        have hP206 : Pf nd A A202 := eA202 ▸ Pf_a hP177 (z := n) (by omega) (by omega)
        have hS207 : Fx sr (sy) A A202 := eA202 ▸ Fx_n hS178 rfl
        have hV208 : Fx [14] (vi) A A202 := eA202 ▸ Fx_n hV179 rfl
        have sf209 : ND A202 (n) (29) (sa1) (0) (exc) (r163) (0) (0) := ND_d eA202 sf180
        have ec210 : ecn A202 (G161 31) = ec1 := (ecn_e ((congrFun eA202 15).trans (uA_ne (by decide)))).trans ec181
        refine jx_ld (pc' := 133) (l' := L) (st' := [.ref 66]) rfl (jl_aloadn gL_0) ?_
        refine jx_vr (pc' := 136) (as := []) (st := []) rfl rfl rfl rfl ⟨rfl, rfl, Nat.le_of_ble_eq_true rfl⟩ rfl rfl (c_endLine (dd := d) (hd := by omega) (hW := hW203)  (ln := ln) (e_ln := show G161 9 = ln from ((hF168.1 9 rfl).trans ((hF138.1 9 rfl).trans (fx_9)))) (li := li) (e_li := show G161 3 = li from ((hF168.1 3 rfl).trans ((hF138.1 3 rfl).trans ((hFx.1 3 rfl).trans (e_li))))) (fk := fk2_166) (e_fk := show G161 16 = fk2_166 from (e172)) (tk0 := tk2_165) (e_tk0 := show G161 11 = tk2_165 from (e171))    (p_0 := by omega)) (fun o V' hq => ?_)
        obtain ⟨G211, A212, ln2_213, fk2_214, rfl, rfl, hW215, hF216, e217, e218, q219⟩ := hq
        have hF220 := Fr_tr hF204 hF216 (Fr_sub (by decide)) (Fr_sub (by decide))
        have hP221 := Pf_f hP206 hF216 (by decide)
        have hS222 := Fx_f hS207 hF216 (by decide)
        have hV223 := Fx_f hV208 hF216 (by decide)
        have sf224 : ND A212 (n) (29) (sa1) (0) (exc) (r163) (0) (0) := ND_ag (by omega) (Ag_fr hF216 (by decide)) sf209
        have ec225 : ecn A212 (G211 31) = ec1 := (ecn_f (hF216.2 15 rfl) (hF216.1 31 rfl)).trans ec210
        have bln2_213 : (0 : Int) ≤ ln2_213 ∧ ln2_213 ≤ 3000 := e217 ▸ hW215.1 9
        have bfk2_214 : (0 : Int) ≤ fk2_214 ∧ fk2_214 ≤ 6 := e218 ▸ hW215.1 16
        refine .inl ⟨rfl, ?_⟩
        rcases q219 with ⟨a226, a227, a228, a229, a230⟩ | ⟨a231, a232⟩
        · have _q : True := trivial
          have b233 : (0 : Int) ≤ A 3 (ln2_213).toNat ∧ A 3 (ln2_213).toNat ≤ 3000 := hW.2 3 _
          have lt234 : ln2_213 < li → le < A 3 (ln2_213).toNat := fun hh => LT_nx (LT_ext (((hF216.1 3 rfl).trans ((hF168.1 3 rfl).trans ((hF138.1 3 rfl).trans (hFx.1 3 rfl))))) (((hF216.2 3 rfl).trans (((congrFun eA202 3).trans (uA_ne (by decide))).trans ((hF168.2 3 rfl).trans ((hF138.2 3 rfl).trans (hFx.2 3 rfl)))))) (((hF216.2 4 rfl).trans (((congrFun eA202 4).trans (uA_ne (by decide))).trans ((hF168.2 4 rfl).trans ((hF138.2 4 rfl).trans (hFx.2 4 rfl)))))) i_LT) (show G211 3 = li from ((hF216.1 3 rfl).trans ((hF168.1 3 rfl).trans ((hF138.1 3 rfl).trans ((hFx.1 3 rfl).trans (e_li)))))) (show A212 4 (ln).toNat = le from (congrFun ((hF216.2 4 rfl).trans (((congrFun eA202 4).trans (uA_ne (by decide))).trans ((hF168.2 4 rfl).trans ((hF138.2 4 rfl).trans (hFx.2 4 rfl))))) _).trans (e_le)) (show A212 3 (ln2_213).toNat = A 3 (ln2_213).toNat from (congrFun ((hF216.2 3 rfl).trans (((congrFun eA202 3).trans (uA_ne (by decide))).trans ((hF168.2 3 rfl).trans ((hF138.2 3 rfl).trans (hFx.2 3 rfl))))) _)) (show ln2_213 = ln + 1 by omega) (by omega) hh
          refine jx_ld (pc' := 137) (l' := L) (st' := [.ref 66]) rfl (jl_aloadn gL_0) ?_
          refine jx_ld (pc' := 138) (l' := L) (st' := [.int (i32 (n)), .ref 66]) rfl (jl_iloadn gL_2) ?_
          refine jx_ld (pc' := 139) (l' := L) (st' := [.int (i32 (lv)), .int (i32 (n)), .ref 66]) rfl (jl_iloadn gL_1) ?_
          refine jx_vr (pc' := 142) (as := [.int (i32 (n)), .int (i32 (lv))]) (st := []) rfl rfl rfl rfl ⟨rfl, rfl, Nat.le_of_ble_eq_true rfl⟩ rfl rfl (c_readIndexed_w (dd := d) (hP := hP) (zz := nd) (hd := by omega) (hW := hW215) (n := n) (lv := lv) (kk := 29) (bb := 0) (cc := exc) (de := r163) (xx := 0) (ln := ln2_213) (e_ln := show G211 9 = ln2_213 from (e217)) (li := li) (e_li := show G211 3 = li from ((hF216.1 3 rfl).trans ((hF168.1 3 rfl).trans ((hF138.1 3 rfl).trans ((hFx.1 3 rfl).trans (e_li)))))) (at0 := at2_164) (e_at0 := show G211 10 = at2_164 from ((hF216.1 10 rfl).trans (e170))) (fk := fk2_214) (e_fk := show G211 16 = fk2_214 from (e218)) (nd := nd1) (e_nd := show G211 31 = nd1 from ((hF216.1 31 rfl).trans ((hF168.1 31 rfl).trans ((hF138.1 31 rfl).trans (ex_nd1))))) (sy := sy1) (e_sy := show G211 19 = sy1 from ((hF216.1 19 rfl).trans ((hF168.1 19 rfl).trans ((hF138.1 19 rfl).trans (ex_sy1))))) (na := na1) (e_na := show G211 28 = na1 from ((hF216.1 28 rfl).trans ((hF168.1 28 rfl).trans ((hF138.1 28 rfl).trans (ex_na1))))) (vi := vi) (e_vi := show G211 29 = vi from ((hF216.1 29 rfl).trans ((hF168.1 29 rfl).trans ((hF138.1 29 rfl).trans (fx_29))))) (lf := A 3 (ln2_213).toNat) (e_lf := show A212 3 (ln2_213).toNat = A 3 (ln2_213).toNat from (congrFun ((hF216.2 3 rfl).trans (((congrFun eA202 3).trans (uA_ne (by decide))).trans ((hF168.2 3 rfl).trans ((hF138.2 3 rfl).trans (hFx.2 3 rfl))))) _)) (sa := sa1) (e_sa := show A212 17 (n).toNat = sa1 from (congrFun ((hF216.2 17 rfl).trans (((congrFun eA202 17).trans (uA_ne (by decide))).trans ((hF168.2 17 rfl).trans (hF138.2 17 rfl)))) _).trans (ex_sa1)) (ksa := ka1) (e_ksa := show A212 7 (sa1).toNat = ka1 from (congrFun ((hF216.2 7 rfl).trans (((congrFun eA202 7).trans (uA_ne (by decide))).trans ((hF168.2 7 rfl).trans (hF138.2 7 rfl)))) _).trans (ex_ka1)) (ec := ec1) (e_ec := show ecn A212 (G211 31) = ec1 from ec225) (i_LT := (LT_ext (((hF216.1 3 rfl).trans ((hF168.1 3 rfl).trans ((hF138.1 3 rfl).trans (hFx.1 3 rfl))))) (((hF216.2 3 rfl).trans (((congrFun eA202 3).trans (uA_ne (by decide))).trans ((hF168.2 3 rfl).trans ((hF138.2 3 rfl).trans (hFx.2 3 rfl)))))) (((hF216.2 4 rfl).trans (((congrFun eA202 4).trans (uA_ne (by decide))).trans ((hF168.2 4 rfl).trans ((hF138.2 4 rfl).trans (hFx.2 4 rfl)))))) i_LT)) (i_SV := (SV_fx i_SV e_vi (show G211 29 = vi from ((hF216.1 29 rfl).trans ((hF168.1 29 rfl).trans ((hF138.1 29 rfl).trans (fx_29))))) (by omega) hV223)) (i_PQ := (PQ_fx i_PQ hS222 (by omega) (hF220.2 29 rfl) (hF220.2 30 rfl))) (hvb := hvb) (h_n := ⟨(Int.le_trans (by decide : (-2147483648 : Int) ≤ -2147483648) rx_n.1), (Int.le_trans rx_n.2 (by decide : (2147483647 : Int) ≤ 2147483647))⟩) (h_lv := ⟨(Int.le_trans (by decide : (-2147483648 : Int) ≤ -2147483648) h_lv.1), (Int.le_trans h_lv.2 (by decide : (2147483647 : Int) ≤ 2147483647))⟩)  (p_0 := by omega) (p_1 := by omega) (p_2 := by omega) (p_3 := by omega) (p_4 := by omega) (p_5 := by omega) (p_6 := by omega) (p_7 := by omega) (p_8 := by omega) (p_9 := by omega) (p_10 := by omega) (p_11 := by omega) (p_12 := by omega) (p_13 := by omega) (p_14 := by omega) (p_15 := by omega) (p_16 := sf224)) (fun o V' hq => ?_)
          obtain ⟨G235, A236, ln2_237, at2_238, fk2_239, nd2_240, sy2_241, na2_242, vi2_243, lf2_244, f2_245, ec2_246, rfl, rfl, hW247, hF248, hQ249, hQ250, hQ251, hQ252, e253, e254, e255, e256, e257, e258, e259, e260, e261, e262, p263, p264, p265, p266, p267, p268, p269, q270⟩ := hq
          have hF271 := Fr_tr hF220 hF248 (Fr_sub (by decide)) (Fr_sub (by decide))
          have hP272 := Pf_tr hP221 hQ249 (by omega)
          have hS273 := Fx_tr hS222 hQ251 (by omega)
          have hV274 := Fx_tr hV223 hQ252 (by omega)
          have k275 : A236 7 (sa1).toNat = ka1 := (hQ251 7 _ rfl (by omega)).trans (show A212 7 (sa1).toNat = ka1 from (congrFun ((hF216.2 7 rfl).trans (((congrFun eA202 7).trans (uA_ne (by decide))).trans ((hF168.2 7 rfl).trans (hF138.2 7 rfl)))) _).trans (ex_ka1))
          have bln2_237 : (0 : Int) ≤ ln2_237 ∧ ln2_237 ≤ 3000 := e253 ▸ hW247.1 9
          have bat2_238 : (0 : Int) ≤ at2_238 ∧ at2_238 ≤ 3002 := e254 ▸ hW247.1 10
          have bfk2_239 : (0 : Int) ≤ fk2_239 ∧ fk2_239 ≤ 6 := e255 ▸ hW247.1 16
          have bnd2_240 : (0 : Int) ≤ nd2_240 ∧ nd2_240 ≤ 6999 := e256 ▸ hW247.1 31
          have bsy2_241 : (0 : Int) ≤ sy2_241 ∧ sy2_241 ≤ 202 := e257 ▸ hW247.1 19
          have bna2_242 : (0 : Int) ≤ na2_242 ∧ na2_242 ≤ 200 := e258 ▸ hW247.1 28
          have bvi2_243 : (0 : Int) ≤ vi2_243 ∧ vi2_243 ≤ 202 := e259 ▸ hW247.1 29
          have blf2_244 : (0 : Int) ≤ lf2_244 ∧ lf2_244 ≤ 3000 := e260 ▸ hW247.2 3 _
          have bf2_245 : (-2147483648 : Int) ≤ f2_245 ∧ f2_245 ≤ 2147483647 := e261 ▸ hW247.2 21 _
          refine .inr ⟨_, rfl, ?_⟩
          rcases q270 with ⟨a276, a277⟩ | ⟨a278, a279, a280, a281, a282, a283, a284⟩
          · have _q : True := trivial
            refine jx_rt (v := some (.int (i32 (n)))) rfl rfl rfl rfl rfl rfl ?_
            exact ⟨_, _, _, ln2_237, at2_238, fk2_239, nd2_240, sy2_241, na2_242, vi2_243, lf2_244, ec2_246, rfl, rfl, hW247, hF271, hP272, hS273, hV274, by omega, (e253), (e254), (e255), (e256), (e257), (e258), (e259), (e260), e262, by omega, by omega, by omega, by omega, by omega, by omega, by omega, by omega, by omega, by omega, by first | exact Or.inl (⟨by omega, by omega⟩)⟩
          · have _q : True := trivial
            refine jx_rt (v := some (.int (i32 (n)))) rfl rfl rfl rfl rfl rfl ?_
            exact ⟨_, _, _, ln2_237, at2_238, fk2_239, nd2_240, sy2_241, na2_242, vi2_243, lf2_244, ec2_246, rfl, rfl, hW247, hF271, hP272, hS273, hV274, by omega, (e253), (e254), (e255), (e256), (e257), (e258), (e259), (e260), e262, by omega, by omega, by omega, by omega, by omega, by omega, by omega, by omega, by omega, by omega, by first | exact Or.inr ((⟨by omega, by omega, by omega, by omega, by omega, by omega, by omega, (wS_parfor (ND_ae a282 (by omega : sa1 = sy)) (by omega) (by rw [← (by omega : sa1 = sy)]; exact (show A236 7 (sa1).toNat = ka1 from (k275)).trans (by omega)) (by omega) (by omega) (by omega) (by omega) (wP_vu (by omega : sa1 = sy) (wP_eq a283 (by omega) rfl (by omega) (by omega) (by omega) (by omega) (by omega) (by omega)))), (NX_nd a282), by omega⟩))⟩
        · have _q : True := trivial
          refine jx_ld (pc' := 137) (l' := L) (st' := [.ref 66]) rfl (jl_aloadn gL_0) ?_
          refine jx_ld (pc' := 138) (l' := L) (st' := [.int (i32 (n)), .ref 66]) rfl (jl_iloadn gL_2) ?_
          refine jx_ld (pc' := 139) (l' := L) (st' := [.int (i32 (lv)), .int (i32 (n)), .ref 66]) rfl (jl_iloadn gL_1) ?_
          refine jx_vr (pc' := 142) (as := [.int (i32 (n)), .int (i32 (lv))]) (st := []) rfl rfl rfl rfl ⟨rfl, rfl, Nat.le_of_ble_eq_true rfl⟩ rfl rfl (c_readIndexed_f (dd := d) (hd := by omega) (hW := hW215) (n := n) (lv := lv) (fk := fk2_214) (e_fk := show G211 16 = fk2_214 from (e218))  (h_n := ⟨(Int.le_trans (by decide : (-2147483648 : Int) ≤ -2147483648) rx_n.1), (Int.le_trans rx_n.2 (by decide : (2147483647 : Int) ≤ 2147483647))⟩) (h_lv := ⟨(Int.le_trans (by decide : (-2147483648 : Int) ≤ -2147483648) h_lv.1), (Int.le_trans h_lv.2 (by decide : (2147483647 : Int) ≤ 2147483647))⟩)  (p_0 := by omega)) (fun o V' hq => ?_)
          obtain ⟨r285, rfl, rfl, b286, p287, -⟩ := hq
          refine .inr ⟨_, rfl, ?_⟩
          refine jx_rt (v := some (.int (i32 (r285)))) rfl rfl rfl rfl rfl rfl ?_
          exact ⟨_, _, _, ln2_213, at2_164, fk2_214, nd1, sy1, na1, vi, A 3 (ln2_213).toNat, ec1, rfl, rfl, hW215, hF220, hP221, hS222, hV223, by omega, (e217), ((hF216.1 10 rfl).trans (e170)), (e218), ((hF216.1 31 rfl).trans ((hF168.1 31 rfl).trans ((hF138.1 31 rfl).trans (ex_nd1)))), ((hF216.1 19 rfl).trans ((hF168.1 19 rfl).trans ((hF138.1 19 rfl).trans (ex_sy1)))), ((hF216.1 28 rfl).trans ((hF168.1 28 rfl).trans ((hF138.1 28 rfl).trans (ex_na1)))), ((hF216.1 29 rfl).trans ((hF168.1 29 rfl).trans ((hF138.1 29 rfl).trans (fx_29)))), (congrFun ((hF216.2 3 rfl).trans (((congrFun eA202 3).trans (uA_ne (by decide))).trans ((hF168.2 3 rfl).trans ((hF138.2 3 rfl).trans (hFx.2 3 rfl))))) _), ec225, by omega, by omega, by omega, by omega, by omega, by omega, by omega, by omega, by omega, by omega, by first | exact Or.inl (⟨by omega, by omega⟩)⟩
  · have _q : True := trivial
    refine jx_vr (pc' := 119) (as := [.int (i32 (0))]) (st := []) rfl rfl rfl rfl ⟨rfl, rfl, Nat.le_of_ble_eq_true rfl⟩ rfl rfl (c_need (dd := d) (hd := by omega) (hW := hWx) (g := 0) (ln := ln) (e_ln := show Gx 9 = ln from (fx_9)) (le := le) (e_le := show Ax 4 (ln).toNat = le from (congrFun (hFx.2 4 rfl) _).trans (e_le)) (at0 := at1) (e_at0 := show Gx 10 = at1 from (ex_at1)) (fk := fk1) (e_fk := show Gx 16 = fk1 from (ex_fk1)) (tk0 := tk1) (e_tk0 := show Gx 11 = tk1 from (ex_tk1))  (h_g := ⟨(by decide), (by decide)⟩)  (p_0 := by omega)) (fun o V' hq => ?_)
    obtain ⟨G289, A290, at2_291, tk2_292, fk2_293, rfl, rfl, hW294, hF295, e296, e297, e298, p299, p300, q301⟩ := hq
    have hF302 := Fr_tr hFx hF295 (Fr_sub (by decide)) (Fr_sub (by decide))
    have hP303 := Pf_f hPx hF295 (by decide)
    have hS304 := Fx_f hSx hF295 (by decide)
    have hV305 := Fx_f hVx hF295 (by decide)
    have sf306 : ND A290 (n) (29) (sa1) (0) (exc) (0) (0) (0) := ND_ag (by omega) (Ag_fr hF295 (by decide)) iv_11
    have ec307 : ecn A290 (G289 31) = ec1 := (ecn_f (hF295.2 15 rfl) (hF295.1 31 rfl)).trans ex_ec1
    have bat2_291 : (0 : Int) ≤ at2_291 ∧ at2_291 ≤ 3002 := e296 ▸ hW294.1 10
    have ztk2_292 := tz_b tk2_292
    have btk2_292 : (0 : Int) ≤ tk2_292 ∧ tk2_292 ≤ 5 := e297 ▸ hW294.1 11
    have bfk2_293 : (0 : Int) ≤ fk2_293 ∧ fk2_293 ≤ 6 := e298 ▸ hW294.1 16
    refine .inl ⟨rfl, ?_⟩
    rcases q301 with ⟨a308, a309, a310, a311⟩ | ⟨a312, a313, a314, a315⟩
    · have _q : True := trivial
      have z316 := tz_f (tk2_292)
      exact c_readPar_w_at_119p (X := X) (k := k) (hP := hP) (d := d) (Vs := Vs) (sb := sb) (pb := pb) (hvb := hvb) (c0 := c0) (c1 := c1) (G := G) (A := A) (T := T) (lv := lv) (ln := ln) (li := li) (at0 := at0) (fk := fk) (nd := nd) (sy := sy) (na := na) (vi := vi) (le := le) (op0 := op0) (tk0 := tk0) (ec := ec) (hd := hd) (hW := hW) (e_ln := e_ln) (e_li := e_li) (e_at0 := e_at0) (e_fk := e_fk) (e_nd := e_nd) (e_sy := e_sy) (e_na := e_na) (e_vi := e_vi) (e_le := e_le) (e_op0 := e_op0) (e_tk0 := e_tk0) (e_ec := e_ec) (i_LT := i_LT) (i_SV := i_SV) (i_PQ := i_PQ) (h_lv := h_lv) (p_0 := p_0) (p_1 := p_1) (p_2 := p_2) (p_3 := p_3) (p_4 := p_4) (p_5 := p_5) (p_6 := p_6) (p_7 := p_7) (p_8 := p_8) (p_9 := p_9) (p_10 := p_10) L G289 A290 (n) (at2_291) (tk2_292) (fk2_293) (nd1) (op1) (sy1) (na1) (ec1) gL_0 gL_1 gL_2 hW294 hF302 hP303 hS304 hV305 ((e296)) ((e297)) ((e298)) (((hF295.1 31 rfl).trans (ex_nd1))) (((hF295.1 15 rfl).trans (ex_op1))) (((hF295.1 19 rfl).trans (ex_sy1))) (((hF295.1 28 rfl).trans (ex_na1))) (ec307) (((hF295.1 9 rfl).trans (fx_9))) (((hF295.1 29 rfl).trans (fx_29))) (by omega) (by omega) (by omega) (by omega) (by omega) (by omega) (by omega) (by omega) (by omega)
    · have _q : True := trivial
      exfalso
      omega
set_option maxRecDepth 20000 in
set_option maxHeartbeats 4000000 in
theorem c_readPar_w_at_95p {X : jX} {k : Nat} (hP : RPw X k) {d : Nat} {Vs : Nat → Prop} {sb pb : Int} (hvb : VB Vs sb) {c0 c1 : jC} {G : Nat → Int} {A : Nat → Nat → Int} {T : jH} {lv : Int} {ln li at0 fk nd sy na vi le op0 tk0 ec : Int} (hd : 8 * k + 82 ≤ d + 1) (hW : Wk G A) (e_ln : G 9 = ln) (e_li : G 3 = li) (e_at0 : G 10 = at0) (e_fk : G 16 = fk) (e_nd : G 31 = nd) (e_sy : G 19 = sy) (e_na : G 28 = na) (e_vi : G 29 = vi) (e_le : A 4 (ln).toNat = le) (e_op0 : G 15 = op0) (e_tk0 : G 11 = tk0) (e_ec : ecn A (G 31) = ec) (i_LT : LT G A) (i_SV : SV Vs sb G A) (i_PQ : PQ Vs sb pb G A) (h_lv : (-2147483648 : Int) ≤ lv ∧ lv ≤ 2147483647) (p_0 : 0 ≤ lv ∧ lv ≤ 15) (p_1 : 18 - lv ≤ ((k + 1 : Nat) : Int)) (p_2 : fk = 0) (p_3 : ln < li) (p_4 : at0 ≤ le) (p_5 : op0 = 0) (p_6 : nd ≤ 2 * at0 - tz tk0 + 30) (p_7 : sy ≤ na + 2) (p_8 : vi ≤ sy) (p_9 : sb = sy) (p_10 : 1 ≤ tk0) : ∀ (L : jL) (Gx : Nat → Int) (Ax : Nat → Nat → Int) (n at1 tk1 fk1 nd1 op1 sy1 na1 ec1 : Int), jGet L 0 = some (.ref 66) → jGet L 1 = some (.int (i32 (lv))) → jGet L 2 = some (.int (i32 n)) → Wk Gx Ax → Fr [9, 10, 11, 12, 13, 14, 15, 16, 17, 18, 19, 28, 29, 31] [6, 7, 8, 9, 10, 11, 12, 14, 15, 16, 17, 18, 19, 20, 21, 22, 23, 24, 28] G A Gx Ax → Pf nd A Ax → Fx sr (sy) A Ax → Fx [14] (vi) A Ax → Gx 10 = at1 → Gx 11 = tk1 → Gx 16 = fk1 → Gx 31 = nd1 → Gx 15 = op1 → Gx 19 = sy1 → Gx 28 = na1 → ecn Ax (Gx 31) = ec1 → Gx 9 = ln → Gx 29 = vi → ((-2147483648 : Int) ≤ n ∧ n ≤ 2147483647) → (1 ≤ fk1) → (at0 ≤ at1) → (at1 ≤ le) → (nd ≤ n ∧ n ≤ 6998 ∧ n < nd1) → (sy ≤ sy1) → (sy1 ≤ na1 + 2) → (0 ≤ op1 ∧ op1 ≤ 9) → (nd1 - nd ≤ 2 * at1 - 2 * at0 + 8) → wj X d jm299 (95, L, [], rV c0 c1 Gx Ax T) (fun o V' => ∃ (G' : Nat → Int) (A' : Nat → Nat → Int) (r : Int) (ln2 : Int) (at2 : Int) (fk2 : Int) (nd2 : Int) (sy2 : Int) (na2 : Int) (vi2 : Int) (lf2 : Int) (ec2 : Int), V' = rV c0 c1 G' A' T ∧ o = .inl (some (.int (i32 r))) ∧ Wk G' A' ∧ Fr [9, 10, 11, 12, 13, 14, 15, 16, 17, 18, 19, 28, 29, 31] [6, 7, 8, 9, 10, 11, 12, 14, 15, 16, 17, 18, 19, 20, 21, 22, 23, 24, 28] G A G' A' ∧ Pf nd A A' ∧ Fx sr (sy) A A' ∧ Fx [14] (vi) A A' ∧ ((-2147483648 : Int) ≤ r ∧ r ≤ 2147483647) ∧ G' 9 = ln2 ∧ G' 10 = at2 ∧ G' 16 = fk2 ∧ G' 31 = nd2 ∧ G' 19 = sy2 ∧ G' 28 = na2 ∧ G' 29 = vi2 ∧ A' 3 (ln2).toNat = lf2 ∧ ecn A' (G' 31) = ec2 ∧ (at0 ≤ at2) ∧ (nd ≤ nd2) ∧ (sy ≤ sy2) ∧ (sy2 ≤ na2 + 2) ∧ (vi ≤ vi2) ∧ (vi2 ≤ vi + 1) ∧ (0 ≤ r) ∧ (r ≤ 6999) ∧ (ln ≤ ln2) ∧ (ln2 ≤ li) ∧ (((1 ≤ fk2) ∧ (nd2 - nd ≤ 2 * at2 - (2 * at0 - tz tk0) + 14)) ∨ ((fk2 = 0) ∧ (vi2 = vi) ∧ (ln < ln2) ∧ (nd2 - nd ≤ 2 * at2 - (2 * at0 - tz tk0)) ∧ (at2 < lf2 ∨ li ≤ ln2) ∧ (nd ≤ r) ∧ (r < nd2) ∧ (wSt A' (sy2) pb (wP A' (sy2) pb (k)) (Vs) (r) (nd) (nd2) (sy) (sy2)) ∧ (NX A' (r)) ∧ (nd2 - nd + 5 * (ec2 - ec) ≤ 2 * at2 - (2 * at0 - tz tk0))))) := by
  have hF0 : Fr [9, 10, 11, 12, 13, 14, 15, 16, 17, 18, 19, 28, 29, 31] [6, 7, 8, 9, 10, 11, 12, 14, 15, 16, 17, 18, 19, 20, 21, 22, 23, 24, 28] G A G A := Fr_rf
  have hP0 : Pf nd A A := Pf_rf
  have hS0 : Fx sr (sy) A A := Fx_rf
  have hV0 : Fx [14] (vi) A A := Fx_rf
  have b_ln : (0 : Int) ≤ ln ∧ ln ≤ 3000 := e_ln ▸ hW.1 9
  have b_li : (0 : Int) ≤ li ∧ li ≤ 3000 := e_li ▸ hW.1 3
  have b_at0 : (0 : Int) ≤ at0 ∧ at0 ≤ 3002 := e_at0 ▸ hW.1 10
  have b_fk : (0 : Int) ≤ fk ∧ fk ≤ 6 := e_fk ▸ hW.1 16
  have b_nd : (0 : Int) ≤ nd ∧ nd ≤ 6999 := e_nd ▸ hW.1 31
  have b_sy : (0 : Int) ≤ sy ∧ sy ≤ 202 := e_sy ▸ hW.1 19
  have b_na : (0 : Int) ≤ na ∧ na ≤ 200 := e_na ▸ hW.1 28
  have b_vi : (0 : Int) ≤ vi ∧ vi ≤ 202 := e_vi ▸ hW.1 29
  have b_le : (0 : Int) ≤ le ∧ le ≤ 3000 := e_le ▸ hW.2 4 _
  have b_op0 : (-2147483648 : Int) ≤ op0 ∧ op0 ≤ 2147483647 := e_op0 ▸ hW.1 15
  have z_tk0 := tz_f tk0
  have b_tk0 : (0 : Int) ≤ tk0 ∧ tk0 ≤ 5 := e_tk0 ▸ hW.1 11
  intro L Gx Ax n at1 tk1 fk1 nd1 op1 sy1 na1 ec1 gL_0 gL_1 gL_2 hWx hFx hPx hSx hVx ex_at1 ex_tk1 ex_fk1 ex_nd1 ex_op1 ex_sy1 ex_na1 ex_ec1 fx_9 fx_29 rx_n iv_0 iv_1 iv_2 iv_3 iv_4 iv_5 iv_6 iv_7
  have b_at1 : (0 : Int) ≤ at1 ∧ at1 ≤ 3002 := ex_at1 ▸ hWx.1 10
  have z_tk1 := tz_f tk1
  have b_tk1 : (0 : Int) ≤ tk1 ∧ tk1 ≤ 5 := ex_tk1 ▸ hWx.1 11
  have b_fk1 : (0 : Int) ≤ fk1 ∧ fk1 ≤ 6 := ex_fk1 ▸ hWx.1 16
  have b_nd1 : (0 : Int) ≤ nd1 ∧ nd1 ≤ 6999 := ex_nd1 ▸ hWx.1 31
  have b_op1 : (-2147483648 : Int) ≤ op1 ∧ op1 ≤ 2147483647 := ex_op1 ▸ hWx.1 15
  have b_sy1 : (0 : Int) ≤ sy1 ∧ sy1 ≤ 202 := ex_sy1 ▸ hWx.1 19
  have b_na1 : (0 : Int) ≤ na1 ∧ na1 ≤ 200 := ex_na1 ▸ hWx.1 28
  refine jx_ld (pc' := 96) (l' := L) (st' := [.ref 66]) rfl (jl_aloadn gL_0) ?_
  refine jr_get (pc' := 99) (i := 36) (v := .ref 86) rfl rfl (by decide) rfl rfl ?_
  refine jx_ld (pc' := 100) (l' := L) (st' := [.int (i32 (n)), .ref 86]) rfl (jl_iloadn gL_2) ?_
  refine jx_ld (pc' := 101) (l' := L) (st' := [.ref 66, .int (i32 (n)), .ref 86]) rfl (jl_aloadn gL_0) ?_
  refine jx_ar (pc' := 102) (st' := [.int (i32 (0)), .ref 66, .int (i32 (n)), .ref 86]) rfl rfl rfl rfl ?_
  refine jx_hp (pc' := 105) (st' := [.int (i32 (2147483647)), .int (i32 (0)), .ref 66, .int (i32 (n)), .ref 86]) rfl rfl rfl rfl rfl rfl ?_
  refine jx_vr (pc' := 108) (as := [.int (i32 (0)), .int (i32 (2147483647))]) (st := [.int (i32 (n)), .ref 86]) rfl rfl rfl rfl ⟨rfl, rfl, Nat.le_of_ble_eq_true rfl⟩ rfl rfl (c_needNumber (dd := d) (hd := by omega) (hW := hWx) (lo := 0) (hi := 2147483647) (ln := ln) (e_ln := show Gx 9 = ln from (fx_9)) (le := le) (e_le := show Ax 4 (ln).toNat = le from (congrFun (hFx.2 4 rfl) _).trans (e_le)) (at0 := at1) (e_at0 := show Gx 10 = at1 from (ex_at1)) (fk := fk1) (e_fk := show Gx 16 = fk1 from (ex_fk1)) (tk0 := tk1) (e_tk0 := show Gx 11 = tk1 from (ex_tk1))  (h_lo := ⟨(by decide), (by decide)⟩) (h_hi := ⟨(by decide), (by decide)⟩)  (p_0 := by omega)) (fun o V' hq => ?_)
  obtain ⟨G317, A318, r319, at2_320, tk2_321, fk2_322, rfl, rfl, hW323, hF324, b325, e326, e327, e328, p329, p330, q331⟩ := hq
  have hF332 := Fr_tr hFx hF324 (Fr_sub (by decide)) (Fr_sub (by decide))
  have hP333 := Pf_f hPx hF324 (by decide)
  have hS334 := Fx_f hSx hF324 (by decide)
  have hV335 := Fx_f hVx hF324 (by decide)
  have ec336 : ecn A318 (G317 31) = ec1 := (ecn_f (hF324.2 15 rfl) (hF324.1 31 rfl)).trans ex_ec1
  have bat2_320 : (0 : Int) ≤ at2_320 ∧ at2_320 ≤ 3002 := e326 ▸ hW323.1 10
  have ztk2_321 := tz_b tk2_321
  have btk2_321 : (0 : Int) ≤ tk2_321 ∧ tk2_321 ≤ 5 := e327 ▸ hW323.1 11
  have bfk2_322 : (0 : Int) ≤ fk2_322 ∧ fk2_322 ≤ 6 := e328 ▸ hW323.1 16
  refine .inr ⟨_, rfl, ?_⟩
  rcases q331 with ⟨a337, a338, a339, a340⟩ | ⟨a341, a342, a343, a344, a345⟩
  · have _q : True := trivial
    refine jr_st (pc' := 109) (i := 19) (m := 7000) (z := n) (y := r319) rfl (by decide) rfl (by decide) (by omega) (by omega) rfl ?_
    have hW347 : Wk G317 (uA A318 19 (n).toNat (r319)) := Wk_a hW323 (show (-2147483648 : Int) ≤ r319 by omega) (show r319 ≤ (2147483647 : Int) by omega)
    have hF348 := Fr_a (z := r319) (k := 19) (n := (n).toNat) hF332 (by decide)
    obtain ⟨A346, eA346⟩ : ∃ q, q = uA A318 19 (n).toNat (r319) := ⟨_, rfl⟩
    rw [← eA346]
    rw [← eA346] at hW347 hF348
    have q349 : A346 19 (n).toNat = r319 := by rw [eA346]; exact uA_eq
    have hP350 : Pf nd A A346 := eA346 ▸ Pf_a hP333 (z := n) (by omega) (by omega)
    have hS351 : Fx sr (sy) A A346 := eA346 ▸ Fx_n hS334 rfl
    have hV352 : Fx [14] (vi) A A346 := eA346 ▸ Fx_n hV335 rfl
    have ec353 : ecn A346 (G317 31) = ec1 := (ecn_e ((congrFun eA346 15).trans (uA_ne (by decide)))).trans ec336
    have z354 := tz_f (tk2_321)
    exact c_readPar_w_at_109p (X := X) (k := k) (hP := hP) (d := d) (Vs := Vs) (sb := sb) (pb := pb) (hvb := hvb) (c0 := c0) (c1 := c1) (G := G) (A := A) (T := T) (lv := lv) (ln := ln) (li := li) (at0 := at0) (fk := fk) (nd := nd) (sy := sy) (na := na) (vi := vi) (le := le) (op0 := op0) (tk0 := tk0) (ec := ec) (hd := hd) (hW := hW) (e_ln := e_ln) (e_li := e_li) (e_at0 := e_at0) (e_fk := e_fk) (e_nd := e_nd) (e_sy := e_sy) (e_na := e_na) (e_vi := e_vi) (e_le := e_le) (e_op0 := e_op0) (e_tk0 := e_tk0) (e_ec := e_ec) (i_LT := i_LT) (i_SV := i_SV) (i_PQ := i_PQ) (h_lv := h_lv) (p_0 := p_0) (p_1 := p_1) (p_2 := p_2) (p_3 := p_3) (p_4 := p_4) (p_5 := p_5) (p_6 := p_6) (p_7 := p_7) (p_8 := p_8) (p_9 := p_9) (p_10 := p_10) L G317 A346 (n) (at2_320) (tk2_321) (fk2_322) (nd1) (op1) (sy1) (na1) (ec1) gL_0 gL_1 gL_2 hW347 hF348 hP350 hS351 hV352 ((e326)) ((e327)) ((e328)) (((hF324.1 31 rfl).trans (ex_nd1))) (((hF324.1 15 rfl).trans (ex_op1))) (((hF324.1 19 rfl).trans (ex_sy1))) (((hF324.1 28 rfl).trans (ex_na1))) (ec353) (((hF324.1 9 rfl).trans (fx_9))) (((hF324.1 29 rfl).trans (fx_29))) (by omega) (by omega) (by omega) (by omega) (by omega) (by omega) (by omega) (by omega) (by omega)
  · have _q : True := trivial
    exfalso
    omega
set_option maxRecDepth 20000 in
set_option maxHeartbeats 4000000 in
theorem c_readPar_w_at_95 {X : jX} {k : Nat} (hP : RPw X k) {d : Nat} {Vs : Nat → Prop} {sb pb : Int} (hvb : VB Vs sb) {c0 c1 : jC} {G : Nat → Int} {A : Nat → Nat → Int} {T : jH} {lv : Int} {ln li at0 fk nd sy na vi le op0 tk0 ec : Int} (hd : 8 * k + 82 ≤ d + 1) (hW : Wk G A) (e_ln : G 9 = ln) (e_li : G 3 = li) (e_at0 : G 10 = at0) (e_fk : G 16 = fk) (e_nd : G 31 = nd) (e_sy : G 19 = sy) (e_na : G 28 = na) (e_vi : G 29 = vi) (e_le : A 4 (ln).toNat = le) (e_op0 : G 15 = op0) (e_tk0 : G 11 = tk0) (e_ec : ecn A (G 31) = ec) (i_LT : LT G A) (i_SV : SV Vs sb G A) (i_PQ : PQ Vs sb pb G A) (h_lv : (-2147483648 : Int) ≤ lv ∧ lv ≤ 2147483647) (p_0 : 0 ≤ lv ∧ lv ≤ 15) (p_1 : 18 - lv ≤ ((k + 1 : Nat) : Int)) (p_2 : fk = 0) (p_3 : ln < li) (p_4 : at0 ≤ le) (p_5 : op0 = 0) (p_6 : nd ≤ 2 * at0 - tz tk0 + 30) (p_7 : sy ≤ na + 2) (p_8 : vi ≤ sy) (p_9 : sb = sy) (p_10 : 1 ≤ tk0) : ∀ (L : jL) (Gx : Nat → Int) (Ax : Nat → Nat → Int) (n at1 tk1 fk1 nd1 op1 sy1 na1 sa1 ka1 ec1 : Int), jGet L 0 = some (.ref 66) → jGet L 1 = some (.int (i32 (lv))) → jGet L 2 = some (.int (i32 n)) → Wk Gx Ax → Fr [9, 10, 11, 12, 13, 14, 15, 16, 17, 18, 19, 28, 29, 31] [6, 7, 8, 9, 10, 11, 12, 14, 15, 16, 17, 18, 19, 20, 21, 22, 23, 24, 28] G A Gx Ax → Pf nd A Ax → Fx sr (sy) A Ax → Fx [14] (vi) A Ax → Gx 10 = at1 → Gx 11 = tk1 → Gx 16 = fk1 → Gx 31 = nd1 → Gx 15 = op1 → Gx 19 = sy1 → Gx 28 = na1 → Ax 17 (n).toNat = sa1 → Ax 7 (sa1).toNat = ka1 → ecn Ax (Gx 31) = ec1 → Gx 9 = ln → Gx 29 = vi → ((-2147483648 : Int) ≤ n ∧ n ≤ 2147483647) → (fk1 = 0) → (at0 ≤ at1) → (at1 ≤ le) → (n = nd) → (n ≤ 6998 ∧ n < nd1) → (sy1 = sy + 1) → (sa1 = sy) → (sy1 ≤ na1 + 2) → (op1 = 0) → (nd1 - nd ≤ (2 * at1 - tz tk1) - (2 * at0 - tz tk0)) → (ka1 = 10) → (nd1 = n + 1) → (ND Ax (n) (29) (sa1) (0) (0) (0) (0) (0)) → (nd1 - nd + 5 * (ec1 - ec) ≤ (2 * at1 - tz tk1) - (2 * at0 - tz tk0)) → wj X d jm299 (95, L, [], rV c0 c1 Gx Ax T) (fun o V' => ∃ (G' : Nat → Int) (A' : Nat → Nat → Int) (r : Int) (ln2 : Int) (at2 : Int) (fk2 : Int) (nd2 : Int) (sy2 : Int) (na2 : Int) (vi2 : Int) (lf2 : Int) (ec2 : Int), V' = rV c0 c1 G' A' T ∧ o = .inl (some (.int (i32 r))) ∧ Wk G' A' ∧ Fr [9, 10, 11, 12, 13, 14, 15, 16, 17, 18, 19, 28, 29, 31] [6, 7, 8, 9, 10, 11, 12, 14, 15, 16, 17, 18, 19, 20, 21, 22, 23, 24, 28] G A G' A' ∧ Pf nd A A' ∧ Fx sr (sy) A A' ∧ Fx [14] (vi) A A' ∧ ((-2147483648 : Int) ≤ r ∧ r ≤ 2147483647) ∧ G' 9 = ln2 ∧ G' 10 = at2 ∧ G' 16 = fk2 ∧ G' 31 = nd2 ∧ G' 19 = sy2 ∧ G' 28 = na2 ∧ G' 29 = vi2 ∧ A' 3 (ln2).toNat = lf2 ∧ ecn A' (G' 31) = ec2 ∧ (at0 ≤ at2) ∧ (nd ≤ nd2) ∧ (sy ≤ sy2) ∧ (sy2 ≤ na2 + 2) ∧ (vi ≤ vi2) ∧ (vi2 ≤ vi + 1) ∧ (0 ≤ r) ∧ (r ≤ 6999) ∧ (ln ≤ ln2) ∧ (ln2 ≤ li) ∧ (((1 ≤ fk2) ∧ (nd2 - nd ≤ 2 * at2 - (2 * at0 - tz tk0) + 14)) ∨ ((fk2 = 0) ∧ (vi2 = vi) ∧ (ln < ln2) ∧ (nd2 - nd ≤ 2 * at2 - (2 * at0 - tz tk0)) ∧ (at2 < lf2 ∨ li ≤ ln2) ∧ (nd ≤ r) ∧ (r < nd2) ∧ (wSt A' (sy2) pb (wP A' (sy2) pb (k)) (Vs) (r) (nd) (nd2) (sy) (sy2)) ∧ (NX A' (r)) ∧ (nd2 - nd + 5 * (ec2 - ec) ≤ 2 * at2 - (2 * at0 - tz tk0))))) := by
  have hF0 : Fr [9, 10, 11, 12, 13, 14, 15, 16, 17, 18, 19, 28, 29, 31] [6, 7, 8, 9, 10, 11, 12, 14, 15, 16, 17, 18, 19, 20, 21, 22, 23, 24, 28] G A G A := Fr_rf
  have hP0 : Pf nd A A := Pf_rf
  have hS0 : Fx sr (sy) A A := Fx_rf
  have hV0 : Fx [14] (vi) A A := Fx_rf
  have b_ln : (0 : Int) ≤ ln ∧ ln ≤ 3000 := e_ln ▸ hW.1 9
  have b_li : (0 : Int) ≤ li ∧ li ≤ 3000 := e_li ▸ hW.1 3
  have b_at0 : (0 : Int) ≤ at0 ∧ at0 ≤ 3002 := e_at0 ▸ hW.1 10
  have b_fk : (0 : Int) ≤ fk ∧ fk ≤ 6 := e_fk ▸ hW.1 16
  have b_nd : (0 : Int) ≤ nd ∧ nd ≤ 6999 := e_nd ▸ hW.1 31
  have b_sy : (0 : Int) ≤ sy ∧ sy ≤ 202 := e_sy ▸ hW.1 19
  have b_na : (0 : Int) ≤ na ∧ na ≤ 200 := e_na ▸ hW.1 28
  have b_vi : (0 : Int) ≤ vi ∧ vi ≤ 202 := e_vi ▸ hW.1 29
  have b_le : (0 : Int) ≤ le ∧ le ≤ 3000 := e_le ▸ hW.2 4 _
  have b_op0 : (-2147483648 : Int) ≤ op0 ∧ op0 ≤ 2147483647 := e_op0 ▸ hW.1 15
  have z_tk0 := tz_f tk0
  have b_tk0 : (0 : Int) ≤ tk0 ∧ tk0 ≤ 5 := e_tk0 ▸ hW.1 11
  intro L Gx Ax n at1 tk1 fk1 nd1 op1 sy1 na1 sa1 ka1 ec1 gL_0 gL_1 gL_2 hWx hFx hPx hSx hVx ex_at1 ex_tk1 ex_fk1 ex_nd1 ex_op1 ex_sy1 ex_na1 ex_sa1 ex_ka1 ex_ec1 fx_9 fx_29 rx_n iv_0 iv_1 iv_2 iv_3 iv_4 iv_5 iv_6 iv_7 iv_8 iv_9 iv_10 iv_11 iv_12 iv_13
  have b_at1 : (0 : Int) ≤ at1 ∧ at1 ≤ 3002 := ex_at1 ▸ hWx.1 10
  have z_tk1 := tz_f tk1
  have b_tk1 : (0 : Int) ≤ tk1 ∧ tk1 ≤ 5 := ex_tk1 ▸ hWx.1 11
  have b_fk1 : (0 : Int) ≤ fk1 ∧ fk1 ≤ 6 := ex_fk1 ▸ hWx.1 16
  have b_nd1 : (0 : Int) ≤ nd1 ∧ nd1 ≤ 6999 := ex_nd1 ▸ hWx.1 31
  have b_op1 : (-2147483648 : Int) ≤ op1 ∧ op1 ≤ 2147483647 := ex_op1 ▸ hWx.1 15
  have b_sy1 : (0 : Int) ≤ sy1 ∧ sy1 ≤ 202 := ex_sy1 ▸ hWx.1 19
  have b_na1 : (0 : Int) ≤ na1 ∧ na1 ≤ 200 := ex_na1 ▸ hWx.1 28
  refine jx_ld (pc' := 96) (l' := L) (st' := [.ref 66]) rfl (jl_aloadn gL_0) ?_
  refine jr_get (pc' := 99) (i := 36) (v := .ref 86) rfl rfl (by decide) rfl rfl ?_
  refine jx_ld (pc' := 100) (l' := L) (st' := [.int (i32 (n)), .ref 86]) rfl (jl_iloadn gL_2) ?_
  refine jx_ld (pc' := 101) (l' := L) (st' := [.ref 66, .int (i32 (n)), .ref 86]) rfl (jl_aloadn gL_0) ?_
  refine jx_ar (pc' := 102) (st' := [.int (i32 (0)), .ref 66, .int (i32 (n)), .ref 86]) rfl rfl rfl rfl ?_
  refine jx_hp (pc' := 105) (st' := [.int (i32 (2147483647)), .int (i32 (0)), .ref 66, .int (i32 (n)), .ref 86]) rfl rfl rfl rfl rfl rfl ?_
  refine jx_vr (pc' := 108) (as := [.int (i32 (0)), .int (i32 (2147483647))]) (st := [.int (i32 (n)), .ref 86]) rfl rfl rfl rfl ⟨rfl, rfl, Nat.le_of_ble_eq_true rfl⟩ rfl rfl (c_needNumber (dd := d) (hd := by omega) (hW := hWx) (lo := 0) (hi := 2147483647) (ln := ln) (e_ln := show Gx 9 = ln from (fx_9)) (le := le) (e_le := show Ax 4 (ln).toNat = le from (congrFun (hFx.2 4 rfl) _).trans (e_le)) (at0 := at1) (e_at0 := show Gx 10 = at1 from (ex_at1)) (fk := fk1) (e_fk := show Gx 16 = fk1 from (ex_fk1)) (tk0 := tk1) (e_tk0 := show Gx 11 = tk1 from (ex_tk1))  (h_lo := ⟨(by decide), (by decide)⟩) (h_hi := ⟨(by decide), (by decide)⟩)  (p_0 := by omega)) (fun o V' hq => ?_)
  obtain ⟨G355, A356, r357, at2_358, tk2_359, fk2_360, rfl, rfl, hW361, hF362, b363, e364, e365, e366, p367, p368, q369⟩ := hq
  have hF370 := Fr_tr hFx hF362 (Fr_sub (by decide)) (Fr_sub (by decide))
  have hP371 := Pf_f hPx hF362 (by decide)
  have hS372 := Fx_f hSx hF362 (by decide)
  have hV373 := Fx_f hVx hF362 (by decide)
  have sf374 : ND A356 (n) (29) (sa1) (0) (0) (0) (0) (0) := ND_ag (by omega) (Ag_fr hF362 (by decide)) iv_12
  have ec375 : ecn A356 (G355 31) = ec1 := (ecn_f (hF362.2 15 rfl) (hF362.1 31 rfl)).trans ex_ec1
  have bat2_358 : (0 : Int) ≤ at2_358 ∧ at2_358 ≤ 3002 := e364 ▸ hW361.1 10
  have ztk2_359 := tz_b tk2_359
  have btk2_359 : (0 : Int) ≤ tk2_359 ∧ tk2_359 ≤ 5 := e365 ▸ hW361.1 11
  have bfk2_360 : (0 : Int) ≤ fk2_360 ∧ fk2_360 ≤ 6 := e366 ▸ hW361.1 16
  refine .inr ⟨_, rfl, ?_⟩
  rcases q369 with ⟨a376, a377, a378, a379⟩ | ⟨a380, a381, a382, a383, a384⟩
  · have _q : True := trivial
    refine jr_st (pc' := 109) (i := 19) (m := 7000) (z := n) (y := r357) rfl (by decide) rfl (by decide) (by omega) (by omega) rfl ?_
    have hW386 : Wk G355 (uA A356 19 (n).toNat (r357)) := Wk_a hW361 (show (-2147483648 : Int) ≤ r357 by omega) (show r357 ≤ (2147483647 : Int) by omega)
    have hF387 := Fr_a (z := r357) (k := 19) (n := (n).toNat) hF370 (by decide)
    obtain ⟨A385, eA385⟩ : ∃ q, q = uA A356 19 (n).toNat (r357) := ⟨_, rfl⟩
    rw [← eA385]
    rw [← eA385] at hW386 hF387
    have q388 : A385 19 (n).toNat = r357 := by rw [eA385]; exact uA_eq
    have hP389 : Pf nd A A385 := eA385 ▸ Pf_a hP371 (z := n) (by omega) (by omega)
    have hS390 : Fx sr (sy) A A385 := eA385 ▸ Fx_n hS372 rfl
    have hV391 : Fx [14] (vi) A A385 := eA385 ▸ Fx_n hV373 rfl
    have sf392 : ND A385 (n) (29) (sa1) (0) (r357) (0) (0) (0) := ND_c eA385 sf374
    have ec393 : ecn A385 (G355 31) = ec1 := (ecn_e ((congrFun eA385 15).trans (uA_ne (by decide)))).trans ec375
    have z394 := tz_f (tk2_359)
    exact c_readPar_w_at_109p (X := X) (k := k) (hP := hP) (d := d) (Vs := Vs) (sb := sb) (pb := pb) (hvb := hvb) (c0 := c0) (c1 := c1) (G := G) (A := A) (T := T) (lv := lv) (ln := ln) (li := li) (at0 := at0) (fk := fk) (nd := nd) (sy := sy) (na := na) (vi := vi) (le := le) (op0 := op0) (tk0 := tk0) (ec := ec) (hd := hd) (hW := hW) (e_ln := e_ln) (e_li := e_li) (e_at0 := e_at0) (e_fk := e_fk) (e_nd := e_nd) (e_sy := e_sy) (e_na := e_na) (e_vi := e_vi) (e_le := e_le) (e_op0 := e_op0) (e_tk0 := e_tk0) (e_ec := e_ec) (i_LT := i_LT) (i_SV := i_SV) (i_PQ := i_PQ) (h_lv := h_lv) (p_0 := p_0) (p_1 := p_1) (p_2 := p_2) (p_3 := p_3) (p_4 := p_4) (p_5 := p_5) (p_6 := p_6) (p_7 := p_7) (p_8 := p_8) (p_9 := p_9) (p_10 := p_10) L G355 A385 (n) (at2_358) (tk2_359) (fk2_360) (nd1) (op1) (sy1) (na1) (ec1) gL_0 gL_1 gL_2 hW386 hF387 hP389 hS390 hV391 ((e364)) ((e365)) ((e366)) (((hF362.1 31 rfl).trans (ex_nd1))) (((hF362.1 15 rfl).trans (ex_op1))) (((hF362.1 19 rfl).trans (ex_sy1))) (((hF362.1 28 rfl).trans (ex_na1))) (ec393) (((hF362.1 9 rfl).trans (fx_9))) (((hF362.1 29 rfl).trans (fx_29))) (by omega) (by omega) (by omega) (by omega) (by omega) (by omega) (by omega) (by omega) (by omega)
  · have _q : True := trivial
    have pz395 : at1 + tz tk2_359 ≤ at2_358 := by omega
    refine jr_st (pc' := 109) (i := 19) (m := 7000) (z := n) (y := r357) rfl (by decide) rfl (by decide) (by omega) (by omega) rfl ?_
    have hW397 : Wk G355 (uA A356 19 (n).toNat (r357)) := Wk_a hW361 (show (-2147483648 : Int) ≤ r357 by omega) (show r357 ≤ (2147483647 : Int) by omega)
    have hF398 := Fr_a (z := r357) (k := 19) (n := (n).toNat) hF370 (by decide)
    obtain ⟨A396, eA396⟩ : ∃ q, q = uA A356 19 (n).toNat (r357) := ⟨_, rfl⟩
    rw [← eA396]
    rw [← eA396] at hW397 hF398
    have q399 : A396 19 (n).toNat = r357 := by rw [eA396]; exact uA_eq
    have hP400 : Pf nd A A396 := eA396 ▸ Pf_a hP371 (z := n) (by omega) (by omega)
    have hS401 : Fx sr (sy) A A396 := eA396 ▸ Fx_n hS372 rfl
    have hV402 : Fx [14] (vi) A A396 := eA396 ▸ Fx_n hV373 rfl
    have sf403 : ND A396 (n) (29) (sa1) (0) (r357) (0) (0) (0) := ND_c eA396 sf374
    have ec404 : ecn A396 (G355 31) = ec1 := (ecn_e ((congrFun eA396 15).trans (uA_ne (by decide)))).trans ec375
    have z405 := tz_f (tk2_359)
    exact c_readPar_w_at_109 (X := X) (k := k) (hP := hP) (d := d) (Vs := Vs) (sb := sb) (pb := pb) (hvb := hvb) (c0 := c0) (c1 := c1) (G := G) (A := A) (T := T) (lv := lv) (ln := ln) (li := li) (at0 := at0) (fk := fk) (nd := nd) (sy := sy) (na := na) (vi := vi) (le := le) (op0 := op0) (tk0 := tk0) (ec := ec) (hd := hd) (hW := hW) (e_ln := e_ln) (e_li := e_li) (e_at0 := e_at0) (e_fk := e_fk) (e_nd := e_nd) (e_sy := e_sy) (e_na := e_na) (e_vi := e_vi) (e_le := e_le) (e_op0 := e_op0) (e_tk0 := e_tk0) (e_ec := e_ec) (i_LT := i_LT) (i_SV := i_SV) (i_PQ := i_PQ) (h_lv := h_lv) (p_0 := p_0) (p_1 := p_1) (p_2 := p_2) (p_3 := p_3) (p_4 := p_4) (p_5 := p_5) (p_6 := p_6) (p_7 := p_7) (p_8 := p_8) (p_9 := p_9) (p_10 := p_10) L G355 A396 (n) (at2_358) (tk2_359) (fk2_360) (nd1) (op1) (sy1) (na1) (sa1) (ka1) (r357) (ec1) gL_0 gL_1 gL_2 hW397 hF398 hP400 hS401 hV402 ((e364)) ((e365)) ((e366)) (((hF362.1 31 rfl).trans (ex_nd1))) (((hF362.1 15 rfl).trans (ex_op1))) (((hF362.1 19 rfl).trans (ex_sy1))) (((hF362.1 28 rfl).trans (ex_na1))) ((congrFun (((congrFun eA396 17).trans (uA_ne (by decide))).trans (hF362.2 17 rfl)) _).trans (ex_sa1)) ((congrFun (((congrFun eA396 7).trans (uA_ne (by decide))).trans (hF362.2 7 rfl)) _).trans (ex_ka1)) ((q399)) (ec404) (((hF362.1 9 rfl).trans (fx_9))) (((hF362.1 29 rfl).trans (fx_29))) (by omega) (by omega) (by omega) (by omega) (by omega) (by omega) (by omega) (by omega) (by omega) (by omega) (by omega) (by omega) (sf403) (by omega) (by omega) (by omega)
set_option maxRecDepth 20000 in
set_option maxHeartbeats 4000000 in
theorem c_readPar_w_at_85p {X : jX} {k : Nat} (hP : RPw X k) {d : Nat} {Vs : Nat → Prop} {sb pb : Int} (hvb : VB Vs sb) {c0 c1 : jC} {G : Nat → Int} {A : Nat → Nat → Int} {T : jH} {lv : Int} {ln li at0 fk nd sy na vi le op0 tk0 ec : Int} (hd : 8 * k + 82 ≤ d + 1) (hW : Wk G A) (e_ln : G 9 = ln) (e_li : G 3 = li) (e_at0 : G 10 = at0) (e_fk : G 16 = fk) (e_nd : G 31 = nd) (e_sy : G 19 = sy) (e_na : G 28 = na) (e_vi : G 29 = vi) (e_le : A 4 (ln).toNat = le) (e_op0 : G 15 = op0) (e_tk0 : G 11 = tk0) (e_ec : ecn A (G 31) = ec) (i_LT : LT G A) (i_SV : SV Vs sb G A) (i_PQ : PQ Vs sb pb G A) (h_lv : (-2147483648 : Int) ≤ lv ∧ lv ≤ 2147483647) (p_0 : 0 ≤ lv ∧ lv ≤ 15) (p_1 : 18 - lv ≤ ((k + 1 : Nat) : Int)) (p_2 : fk = 0) (p_3 : ln < li) (p_4 : at0 ≤ le) (p_5 : op0 = 0) (p_6 : nd ≤ 2 * at0 - tz tk0 + 30) (p_7 : sy ≤ na + 2) (p_8 : vi ≤ sy) (p_9 : sb = sy) (p_10 : 1 ≤ tk0) : ∀ (L : jL) (Gx : Nat → Int) (Ax : Nat → Nat → Int) (n at1 tk1 fk1 nd1 op1 sy1 na1 ec1 : Int), jGet L 0 = some (.ref 66) → jGet L 1 = some (.int (i32 (lv))) → jGet L 2 = some (.int (i32 n)) → Wk Gx Ax → Fr [9, 10, 11, 12, 13, 14, 15, 16, 17, 18, 19, 28, 29, 31] [6, 7, 8, 9, 10, 11, 12, 14, 15, 16, 17, 18, 19, 20, 21, 22, 23, 24, 28] G A Gx Ax → Pf nd A Ax → Fx sr (sy) A Ax → Fx [14] (vi) A Ax → Gx 10 = at1 → Gx 11 = tk1 → Gx 16 = fk1 → Gx 31 = nd1 → Gx 15 = op1 → Gx 19 = sy1 → Gx 28 = na1 → ecn Ax (Gx 31) = ec1 → Gx 9 = ln → Gx 29 = vi → ((-2147483648 : Int) ≤ n ∧ n ≤ 2147483647) → (1 ≤ fk1) → (at0 ≤ at1) → (at1 ≤ le) → (nd ≤ n ∧ n ≤ 6998 ∧ n < nd1) → (sy ≤ sy1) → (sy1 ≤ na1 + 2) → (0 ≤ op1 ∧ op1 ≤ 9) → (nd1 - nd ≤ 2 * at1 - 2 * at0 + 8) → wj X d jm299 (85, L, [], rV c0 c1 Gx Ax T) (fun o V' => ∃ (G' : Nat → Int) (A' : Nat → Nat → Int) (r : Int) (ln2 : Int) (at2 : Int) (fk2 : Int) (nd2 : Int) (sy2 : Int) (na2 : Int) (vi2 : Int) (lf2 : Int) (ec2 : Int), V' = rV c0 c1 G' A' T ∧ o = .inl (some (.int (i32 r))) ∧ Wk G' A' ∧ Fr [9, 10, 11, 12, 13, 14, 15, 16, 17, 18, 19, 28, 29, 31] [6, 7, 8, 9, 10, 11, 12, 14, 15, 16, 17, 18, 19, 20, 21, 22, 23, 24, 28] G A G' A' ∧ Pf nd A A' ∧ Fx sr (sy) A A' ∧ Fx [14] (vi) A A' ∧ ((-2147483648 : Int) ≤ r ∧ r ≤ 2147483647) ∧ G' 9 = ln2 ∧ G' 10 = at2 ∧ G' 16 = fk2 ∧ G' 31 = nd2 ∧ G' 19 = sy2 ∧ G' 28 = na2 ∧ G' 29 = vi2 ∧ A' 3 (ln2).toNat = lf2 ∧ ecn A' (G' 31) = ec2 ∧ (at0 ≤ at2) ∧ (nd ≤ nd2) ∧ (sy ≤ sy2) ∧ (sy2 ≤ na2 + 2) ∧ (vi ≤ vi2) ∧ (vi2 ≤ vi + 1) ∧ (0 ≤ r) ∧ (r ≤ 6999) ∧ (ln ≤ ln2) ∧ (ln2 ≤ li) ∧ (((1 ≤ fk2) ∧ (nd2 - nd ≤ 2 * at2 - (2 * at0 - tz tk0) + 14)) ∨ ((fk2 = 0) ∧ (vi2 = vi) ∧ (ln < ln2) ∧ (nd2 - nd ≤ 2 * at2 - (2 * at0 - tz tk0)) ∧ (at2 < lf2 ∨ li ≤ ln2) ∧ (nd ≤ r) ∧ (r < nd2) ∧ (wSt A' (sy2) pb (wP A' (sy2) pb (k)) (Vs) (r) (nd) (nd2) (sy) (sy2)) ∧ (NX A' (r)) ∧ (nd2 - nd + 5 * (ec2 - ec) ≤ 2 * at2 - (2 * at0 - tz tk0))))) := by
  have hF0 : Fr [9, 10, 11, 12, 13, 14, 15, 16, 17, 18, 19, 28, 29, 31] [6, 7, 8, 9, 10, 11, 12, 14, 15, 16, 17, 18, 19, 20, 21, 22, 23, 24, 28] G A G A := Fr_rf
  have hP0 : Pf nd A A := Pf_rf
  have hS0 : Fx sr (sy) A A := Fx_rf
  have hV0 : Fx [14] (vi) A A := Fx_rf
  have b_ln : (0 : Int) ≤ ln ∧ ln ≤ 3000 := e_ln ▸ hW.1 9
  have b_li : (0 : Int) ≤ li ∧ li ≤ 3000 := e_li ▸ hW.1 3
  have b_at0 : (0 : Int) ≤ at0 ∧ at0 ≤ 3002 := e_at0 ▸ hW.1 10
  have b_fk : (0 : Int) ≤ fk ∧ fk ≤ 6 := e_fk ▸ hW.1 16
  have b_nd : (0 : Int) ≤ nd ∧ nd ≤ 6999 := e_nd ▸ hW.1 31
  have b_sy : (0 : Int) ≤ sy ∧ sy ≤ 202 := e_sy ▸ hW.1 19
  have b_na : (0 : Int) ≤ na ∧ na ≤ 200 := e_na ▸ hW.1 28
  have b_vi : (0 : Int) ≤ vi ∧ vi ≤ 202 := e_vi ▸ hW.1 29
  have b_le : (0 : Int) ≤ le ∧ le ≤ 3000 := e_le ▸ hW.2 4 _
  have b_op0 : (-2147483648 : Int) ≤ op0 ∧ op0 ≤ 2147483647 := e_op0 ▸ hW.1 15
  have z_tk0 := tz_f tk0
  have b_tk0 : (0 : Int) ≤ tk0 ∧ tk0 ≤ 5 := e_tk0 ▸ hW.1 11
  intro L Gx Ax n at1 tk1 fk1 nd1 op1 sy1 na1 ec1 gL_0 gL_1 gL_2 hWx hFx hPx hSx hVx ex_at1 ex_tk1 ex_fk1 ex_nd1 ex_op1 ex_sy1 ex_na1 ex_ec1 fx_9 fx_29 rx_n iv_0 iv_1 iv_2 iv_3 iv_4 iv_5 iv_6 iv_7
  have b_at1 : (0 : Int) ≤ at1 ∧ at1 ≤ 3002 := ex_at1 ▸ hWx.1 10
  have z_tk1 := tz_f tk1
  have b_tk1 : (0 : Int) ≤ tk1 ∧ tk1 ≤ 5 := ex_tk1 ▸ hWx.1 11
  have b_fk1 : (0 : Int) ≤ fk1 ∧ fk1 ≤ 6 := ex_fk1 ▸ hWx.1 16
  have b_nd1 : (0 : Int) ≤ nd1 ∧ nd1 ≤ 6999 := ex_nd1 ▸ hWx.1 31
  have b_op1 : (-2147483648 : Int) ≤ op1 ∧ op1 ≤ 2147483647 := ex_op1 ▸ hWx.1 15
  have b_sy1 : (0 : Int) ≤ sy1 ∧ sy1 ≤ 202 := ex_sy1 ▸ hWx.1 19
  have b_na1 : (0 : Int) ≤ na1 ∧ na1 ≤ 200 := ex_na1 ▸ hWx.1 28
  refine jx_ld (pc' := 86) (l' := L) (st' := [.ref 66]) rfl (jl_aloadn gL_0) ?_
  refine jx_ld (pc' := 87) (l' := L) (st' := [.ref 66, .ref 66]) rfl (jl_aloadn gL_0) ?_
  refine jx_ar (pc' := 89) (st' := [.int (i32 (61)), .ref 66, .ref 66]) rfl rfl rfl rfl ?_
  have b406 : (-2147483648 : Int) ≤ Gx 13 ∧ Gx 13 ≤ 2147483647 := hWx.1 13
  refine jx_vr (pc' := 92) (as := [.int (i32 (61))]) (st := [.ref 66]) rfl rfl rfl rfl ⟨rfl, rfl, Nat.le_of_ble_eq_true rfl⟩ rfl rfl (c_is (dd := d) (hd := by omega) (hW := hWx) (k := 61) (tk := tk1) (e_tk := show Gx 11 = tk1 from (ex_tk1)) (tn := Gx 13) (e_tn := show Gx 13 = Gx 13 from rfl)  (h_k := ⟨(by decide), (by decide)⟩)  ) (fun o V' hq => ?_)
  obtain ⟨r407, rfl, rfl, b408, q409⟩ := hq
  refine .inr ⟨_, rfl, ?_⟩
  rcases q409 with ⟨rfl, a410, a411, a412⟩ | rfl
  · have _q : True := trivial
    refine jx_vr (pc' := 95) (as := [.int (i32 (1))]) (st := []) rfl rfl rfl rfl ⟨rfl, rfl, Nat.le_of_ble_eq_true rfl⟩ rfl rfl (c_need (dd := d) (hd := by omega) (hW := hWx) (g := 1) (ln := ln) (e_ln := show Gx 9 = ln from (fx_9)) (le := le) (e_le := show Ax 4 (ln).toNat = le from (congrFun (hFx.2 4 rfl) _).trans (e_le)) (at0 := at1) (e_at0 := show Gx 10 = at1 from (ex_at1)) (fk := fk1) (e_fk := show Gx 16 = fk1 from (ex_fk1)) (tk0 := tk1) (e_tk0 := show Gx 11 = tk1 from (ex_tk1))  (h_g := ⟨(by decide), (by decide)⟩)  (p_0 := by omega)) (fun o V' hq => ?_)
    obtain ⟨G413, A414, at2_415, tk2_416, fk2_417, rfl, rfl, hW418, hF419, e420, e421, e422, p423, p424, q425⟩ := hq
    have hF426 := Fr_tr hFx hF419 (Fr_sub (by decide)) (Fr_sub (by decide))
    have hP427 := Pf_f hPx hF419 (by decide)
    have hS428 := Fx_f hSx hF419 (by decide)
    have hV429 := Fx_f hVx hF419 (by decide)
    have ec430 : ecn A414 (G413 31) = ec1 := (ecn_f (hF419.2 15 rfl) (hF419.1 31 rfl)).trans ex_ec1
    have bat2_415 : (0 : Int) ≤ at2_415 ∧ at2_415 ≤ 3002 := e420 ▸ hW418.1 10
    have ztk2_416 := tz_b tk2_416
    have btk2_416 : (0 : Int) ≤ tk2_416 ∧ tk2_416 ≤ 5 := e421 ▸ hW418.1 11
    have bfk2_417 : (0 : Int) ≤ fk2_417 ∧ fk2_417 ≤ 6 := e422 ▸ hW418.1 16
    refine .inl ⟨rfl, ?_⟩
    rcases q425 with ⟨a431, a432, a433, a434⟩ | ⟨a435, a436, a437, a438⟩
    · have _q : True := trivial
      have z439 := tz_f (tk2_416)
      exact c_readPar_w_at_95p (X := X) (k := k) (hP := hP) (d := d) (Vs := Vs) (sb := sb) (pb := pb) (hvb := hvb) (c0 := c0) (c1 := c1) (G := G) (A := A) (T := T) (lv := lv) (ln := ln) (li := li) (at0 := at0) (fk := fk) (nd := nd) (sy := sy) (na := na) (vi := vi) (le := le) (op0 := op0) (tk0 := tk0) (ec := ec) (hd := hd) (hW := hW) (e_ln := e_ln) (e_li := e_li) (e_at0 := e_at0) (e_fk := e_fk) (e_nd := e_nd) (e_sy := e_sy) (e_na := e_na) (e_vi := e_vi) (e_le := e_le) (e_op0 := e_op0) (e_tk0 := e_tk0) (e_ec := e_ec) (i_LT := i_LT) (i_SV := i_SV) (i_PQ := i_PQ) (h_lv := h_lv) (p_0 := p_0) (p_1 := p_1) (p_2 := p_2) (p_3 := p_3) (p_4 := p_4) (p_5 := p_5) (p_6 := p_6) (p_7 := p_7) (p_8 := p_8) (p_9 := p_9) (p_10 := p_10) L G413 A414 (n) (at2_415) (tk2_416) (fk2_417) (nd1) (op1) (sy1) (na1) (ec1) gL_0 gL_1 gL_2 hW418 hF426 hP427 hS428 hV429 ((e420)) ((e421)) ((e422)) (((hF419.1 31 rfl).trans (ex_nd1))) (((hF419.1 15 rfl).trans (ex_op1))) (((hF419.1 19 rfl).trans (ex_sy1))) (((hF419.1 28 rfl).trans (ex_na1))) (ec430) (((hF419.1 9 rfl).trans (fx_9))) (((hF419.1 29 rfl).trans (fx_29))) (by omega) (by omega) (by omega) (by omega) (by omega) (by omega) (by omega) (by omega) (by omega)
    · have _q : True := trivial
      exfalso
      omega
  · have _q : True := trivial
    refine jx_vr (pc' := 95) (as := [.int (i32 (0))]) (st := []) rfl rfl rfl rfl ⟨rfl, rfl, Nat.le_of_ble_eq_true rfl⟩ rfl rfl (c_need (dd := d) (hd := by omega) (hW := hWx) (g := 0) (ln := ln) (e_ln := show Gx 9 = ln from (fx_9)) (le := le) (e_le := show Ax 4 (ln).toNat = le from (congrFun (hFx.2 4 rfl) _).trans (e_le)) (at0 := at1) (e_at0 := show Gx 10 = at1 from (ex_at1)) (fk := fk1) (e_fk := show Gx 16 = fk1 from (ex_fk1)) (tk0 := tk1) (e_tk0 := show Gx 11 = tk1 from (ex_tk1))  (h_g := ⟨(by decide), (by decide)⟩)  (p_0 := by omega)) (fun o V' hq => ?_)
    obtain ⟨G440, A441, at2_442, tk2_443, fk2_444, rfl, rfl, hW445, hF446, e447, e448, e449, p450, p451, q452⟩ := hq
    have hF453 := Fr_tr hFx hF446 (Fr_sub (by decide)) (Fr_sub (by decide))
    have hP454 := Pf_f hPx hF446 (by decide)
    have hS455 := Fx_f hSx hF446 (by decide)
    have hV456 := Fx_f hVx hF446 (by decide)
    have ec457 : ecn A441 (G440 31) = ec1 := (ecn_f (hF446.2 15 rfl) (hF446.1 31 rfl)).trans ex_ec1
    have bat2_442 : (0 : Int) ≤ at2_442 ∧ at2_442 ≤ 3002 := e447 ▸ hW445.1 10
    have ztk2_443 := tz_b tk2_443
    have btk2_443 : (0 : Int) ≤ tk2_443 ∧ tk2_443 ≤ 5 := e448 ▸ hW445.1 11
    have bfk2_444 : (0 : Int) ≤ fk2_444 ∧ fk2_444 ≤ 6 := e449 ▸ hW445.1 16
    refine .inl ⟨rfl, ?_⟩
    rcases q452 with ⟨a458, a459, a460, a461⟩ | ⟨a462, a463, a464, a465⟩
    · have _q : True := trivial
      have z466 := tz_f (tk2_443)
      exact c_readPar_w_at_95p (X := X) (k := k) (hP := hP) (d := d) (Vs := Vs) (sb := sb) (pb := pb) (hvb := hvb) (c0 := c0) (c1 := c1) (G := G) (A := A) (T := T) (lv := lv) (ln := ln) (li := li) (at0 := at0) (fk := fk) (nd := nd) (sy := sy) (na := na) (vi := vi) (le := le) (op0 := op0) (tk0 := tk0) (ec := ec) (hd := hd) (hW := hW) (e_ln := e_ln) (e_li := e_li) (e_at0 := e_at0) (e_fk := e_fk) (e_nd := e_nd) (e_sy := e_sy) (e_na := e_na) (e_vi := e_vi) (e_le := e_le) (e_op0 := e_op0) (e_tk0 := e_tk0) (e_ec := e_ec) (i_LT := i_LT) (i_SV := i_SV) (i_PQ := i_PQ) (h_lv := h_lv) (p_0 := p_0) (p_1 := p_1) (p_2 := p_2) (p_3 := p_3) (p_4 := p_4) (p_5 := p_5) (p_6 := p_6) (p_7 := p_7) (p_8 := p_8) (p_9 := p_9) (p_10 := p_10) L G440 A441 (n) (at2_442) (tk2_443) (fk2_444) (nd1) (op1) (sy1) (na1) (ec1) gL_0 gL_1 gL_2 hW445 hF453 hP454 hS455 hV456 ((e447)) ((e448)) ((e449)) (((hF446.1 31 rfl).trans (ex_nd1))) (((hF446.1 15 rfl).trans (ex_op1))) (((hF446.1 19 rfl).trans (ex_sy1))) (((hF446.1 28 rfl).trans (ex_na1))) (ec457) (((hF446.1 9 rfl).trans (fx_9))) (((hF446.1 29 rfl).trans (fx_29))) (by omega) (by omega) (by omega) (by omega) (by omega) (by omega) (by omega) (by omega) (by omega)
    · have _q : True := trivial
      exfalso
      omega
set_option maxRecDepth 20000 in
set_option maxHeartbeats 4000000 in
theorem c_readPar_w_at_85 {X : jX} {k : Nat} (hP : RPw X k) {d : Nat} {Vs : Nat → Prop} {sb pb : Int} (hvb : VB Vs sb) {c0 c1 : jC} {G : Nat → Int} {A : Nat → Nat → Int} {T : jH} {lv : Int} {ln li at0 fk nd sy na vi le op0 tk0 ec : Int} (hd : 8 * k + 82 ≤ d + 1) (hW : Wk G A) (e_ln : G 9 = ln) (e_li : G 3 = li) (e_at0 : G 10 = at0) (e_fk : G 16 = fk) (e_nd : G 31 = nd) (e_sy : G 19 = sy) (e_na : G 28 = na) (e_vi : G 29 = vi) (e_le : A 4 (ln).toNat = le) (e_op0 : G 15 = op0) (e_tk0 : G 11 = tk0) (e_ec : ecn A (G 31) = ec) (i_LT : LT G A) (i_SV : SV Vs sb G A) (i_PQ : PQ Vs sb pb G A) (h_lv : (-2147483648 : Int) ≤ lv ∧ lv ≤ 2147483647) (p_0 : 0 ≤ lv ∧ lv ≤ 15) (p_1 : 18 - lv ≤ ((k + 1 : Nat) : Int)) (p_2 : fk = 0) (p_3 : ln < li) (p_4 : at0 ≤ le) (p_5 : op0 = 0) (p_6 : nd ≤ 2 * at0 - tz tk0 + 30) (p_7 : sy ≤ na + 2) (p_8 : vi ≤ sy) (p_9 : sb = sy) (p_10 : 1 ≤ tk0) : ∀ (L : jL) (Gx : Nat → Int) (Ax : Nat → Nat → Int) (n at1 tk1 fk1 nd1 op1 sy1 na1 sa1 ka1 ec1 : Int), jGet L 0 = some (.ref 66) → jGet L 1 = some (.int (i32 (lv))) → jGet L 2 = some (.int (i32 n)) → Wk Gx Ax → Fr [9, 10, 11, 12, 13, 14, 15, 16, 17, 18, 19, 28, 29, 31] [6, 7, 8, 9, 10, 11, 12, 14, 15, 16, 17, 18, 19, 20, 21, 22, 23, 24, 28] G A Gx Ax → Pf nd A Ax → Fx sr (sy) A Ax → Fx [14] (vi) A Ax → Gx 10 = at1 → Gx 11 = tk1 → Gx 16 = fk1 → Gx 31 = nd1 → Gx 15 = op1 → Gx 19 = sy1 → Gx 28 = na1 → Ax 17 (n).toNat = sa1 → Ax 7 (sa1).toNat = ka1 → ecn Ax (Gx 31) = ec1 → Gx 9 = ln → Gx 29 = vi → ((-2147483648 : Int) ≤ n ∧ n ≤ 2147483647) → (fk1 = 0) → (at0 ≤ at1) → (at1 ≤ le) → (n = nd) → (n ≤ 6998 ∧ n < nd1) → (sy1 = sy + 1) → (sa1 = sy) → (sy1 ≤ na1 + 2) → (op1 = 0) → (nd1 - nd ≤ (2 * at1 - tz tk1) - (2 * at0 - tz tk0)) → (ka1 = 10) → (nd1 = n + 1) → (ND Ax (n) (29) (sa1) (0) (0) (0) (0) (0)) → (nd1 - nd + 5 * (ec1 - ec) ≤ (2 * at1 - tz tk1) - (2 * at0 - tz tk0)) → wj X d jm299 (85, L, [], rV c0 c1 Gx Ax T) (fun o V' => ∃ (G' : Nat → Int) (A' : Nat → Nat → Int) (r : Int) (ln2 : Int) (at2 : Int) (fk2 : Int) (nd2 : Int) (sy2 : Int) (na2 : Int) (vi2 : Int) (lf2 : Int) (ec2 : Int), V' = rV c0 c1 G' A' T ∧ o = .inl (some (.int (i32 r))) ∧ Wk G' A' ∧ Fr [9, 10, 11, 12, 13, 14, 15, 16, 17, 18, 19, 28, 29, 31] [6, 7, 8, 9, 10, 11, 12, 14, 15, 16, 17, 18, 19, 20, 21, 22, 23, 24, 28] G A G' A' ∧ Pf nd A A' ∧ Fx sr (sy) A A' ∧ Fx [14] (vi) A A' ∧ ((-2147483648 : Int) ≤ r ∧ r ≤ 2147483647) ∧ G' 9 = ln2 ∧ G' 10 = at2 ∧ G' 16 = fk2 ∧ G' 31 = nd2 ∧ G' 19 = sy2 ∧ G' 28 = na2 ∧ G' 29 = vi2 ∧ A' 3 (ln2).toNat = lf2 ∧ ecn A' (G' 31) = ec2 ∧ (at0 ≤ at2) ∧ (nd ≤ nd2) ∧ (sy ≤ sy2) ∧ (sy2 ≤ na2 + 2) ∧ (vi ≤ vi2) ∧ (vi2 ≤ vi + 1) ∧ (0 ≤ r) ∧ (r ≤ 6999) ∧ (ln ≤ ln2) ∧ (ln2 ≤ li) ∧ (((1 ≤ fk2) ∧ (nd2 - nd ≤ 2 * at2 - (2 * at0 - tz tk0) + 14)) ∨ ((fk2 = 0) ∧ (vi2 = vi) ∧ (ln < ln2) ∧ (nd2 - nd ≤ 2 * at2 - (2 * at0 - tz tk0)) ∧ (at2 < lf2 ∨ li ≤ ln2) ∧ (nd ≤ r) ∧ (r < nd2) ∧ (wSt A' (sy2) pb (wP A' (sy2) pb (k)) (Vs) (r) (nd) (nd2) (sy) (sy2)) ∧ (NX A' (r)) ∧ (nd2 - nd + 5 * (ec2 - ec) ≤ 2 * at2 - (2 * at0 - tz tk0))))) := by
  have hF0 : Fr [9, 10, 11, 12, 13, 14, 15, 16, 17, 18, 19, 28, 29, 31] [6, 7, 8, 9, 10, 11, 12, 14, 15, 16, 17, 18, 19, 20, 21, 22, 23, 24, 28] G A G A := Fr_rf
  have hP0 : Pf nd A A := Pf_rf
  have hS0 : Fx sr (sy) A A := Fx_rf
  have hV0 : Fx [14] (vi) A A := Fx_rf
  have b_ln : (0 : Int) ≤ ln ∧ ln ≤ 3000 := e_ln ▸ hW.1 9
  have b_li : (0 : Int) ≤ li ∧ li ≤ 3000 := e_li ▸ hW.1 3
  have b_at0 : (0 : Int) ≤ at0 ∧ at0 ≤ 3002 := e_at0 ▸ hW.1 10
  have b_fk : (0 : Int) ≤ fk ∧ fk ≤ 6 := e_fk ▸ hW.1 16
  have b_nd : (0 : Int) ≤ nd ∧ nd ≤ 6999 := e_nd ▸ hW.1 31
  have b_sy : (0 : Int) ≤ sy ∧ sy ≤ 202 := e_sy ▸ hW.1 19
  have b_na : (0 : Int) ≤ na ∧ na ≤ 200 := e_na ▸ hW.1 28
  have b_vi : (0 : Int) ≤ vi ∧ vi ≤ 202 := e_vi ▸ hW.1 29
  have b_le : (0 : Int) ≤ le ∧ le ≤ 3000 := e_le ▸ hW.2 4 _
  have b_op0 : (-2147483648 : Int) ≤ op0 ∧ op0 ≤ 2147483647 := e_op0 ▸ hW.1 15
  have z_tk0 := tz_f tk0
  have b_tk0 : (0 : Int) ≤ tk0 ∧ tk0 ≤ 5 := e_tk0 ▸ hW.1 11
  intro L Gx Ax n at1 tk1 fk1 nd1 op1 sy1 na1 sa1 ka1 ec1 gL_0 gL_1 gL_2 hWx hFx hPx hSx hVx ex_at1 ex_tk1 ex_fk1 ex_nd1 ex_op1 ex_sy1 ex_na1 ex_sa1 ex_ka1 ex_ec1 fx_9 fx_29 rx_n iv_0 iv_1 iv_2 iv_3 iv_4 iv_5 iv_6 iv_7 iv_8 iv_9 iv_10 iv_11 iv_12 iv_13
  have b_at1 : (0 : Int) ≤ at1 ∧ at1 ≤ 3002 := ex_at1 ▸ hWx.1 10
  have z_tk1 := tz_f tk1
  have b_tk1 : (0 : Int) ≤ tk1 ∧ tk1 ≤ 5 := ex_tk1 ▸ hWx.1 11
  have b_fk1 : (0 : Int) ≤ fk1 ∧ fk1 ≤ 6 := ex_fk1 ▸ hWx.1 16
  have b_nd1 : (0 : Int) ≤ nd1 ∧ nd1 ≤ 6999 := ex_nd1 ▸ hWx.1 31
  have b_op1 : (-2147483648 : Int) ≤ op1 ∧ op1 ≤ 2147483647 := ex_op1 ▸ hWx.1 15
  have b_sy1 : (0 : Int) ≤ sy1 ∧ sy1 ≤ 202 := ex_sy1 ▸ hWx.1 19
  have b_na1 : (0 : Int) ≤ na1 ∧ na1 ≤ 200 := ex_na1 ▸ hWx.1 28
  refine jx_ld (pc' := 86) (l' := L) (st' := [.ref 66]) rfl (jl_aloadn gL_0) ?_
  refine jx_ld (pc' := 87) (l' := L) (st' := [.ref 66, .ref 66]) rfl (jl_aloadn gL_0) ?_
  refine jx_ar (pc' := 89) (st' := [.int (i32 (61)), .ref 66, .ref 66]) rfl rfl rfl rfl ?_
  have b467 : (-2147483648 : Int) ≤ Gx 13 ∧ Gx 13 ≤ 2147483647 := hWx.1 13
  refine jx_vr (pc' := 92) (as := [.int (i32 (61))]) (st := [.ref 66]) rfl rfl rfl rfl ⟨rfl, rfl, Nat.le_of_ble_eq_true rfl⟩ rfl rfl (c_is (dd := d) (hd := by omega) (hW := hWx) (k := 61) (tk := tk1) (e_tk := show Gx 11 = tk1 from (ex_tk1)) (tn := Gx 13) (e_tn := show Gx 13 = Gx 13 from rfl)  (h_k := ⟨(by decide), (by decide)⟩)  ) (fun o V' hq => ?_)
  obtain ⟨r468, rfl, rfl, b469, q470⟩ := hq
  refine .inr ⟨_, rfl, ?_⟩
  rcases q470 with ⟨rfl, a471, a472, a473⟩ | rfl
  · have _q : True := trivial
    refine jx_vr (pc' := 95) (as := [.int (i32 (1))]) (st := []) rfl rfl rfl rfl ⟨rfl, rfl, Nat.le_of_ble_eq_true rfl⟩ rfl rfl (c_need (dd := d) (hd := by omega) (hW := hWx) (g := 1) (ln := ln) (e_ln := show Gx 9 = ln from (fx_9)) (le := le) (e_le := show Ax 4 (ln).toNat = le from (congrFun (hFx.2 4 rfl) _).trans (e_le)) (at0 := at1) (e_at0 := show Gx 10 = at1 from (ex_at1)) (fk := fk1) (e_fk := show Gx 16 = fk1 from (ex_fk1)) (tk0 := tk1) (e_tk0 := show Gx 11 = tk1 from (ex_tk1))  (h_g := ⟨(by decide), (by decide)⟩)  (p_0 := by omega)) (fun o V' hq => ?_)
    obtain ⟨G474, A475, at2_476, tk2_477, fk2_478, rfl, rfl, hW479, hF480, e481, e482, e483, p484, p485, q486⟩ := hq
    have hF487 := Fr_tr hFx hF480 (Fr_sub (by decide)) (Fr_sub (by decide))
    have hP488 := Pf_f hPx hF480 (by decide)
    have hS489 := Fx_f hSx hF480 (by decide)
    have hV490 := Fx_f hVx hF480 (by decide)
    have sf491 : ND A475 (n) (29) (sa1) (0) (0) (0) (0) (0) := ND_ag (by omega) (Ag_fr hF480 (by decide)) iv_12
    have ec492 : ecn A475 (G474 31) = ec1 := (ecn_f (hF480.2 15 rfl) (hF480.1 31 rfl)).trans ex_ec1
    have bat2_476 : (0 : Int) ≤ at2_476 ∧ at2_476 ≤ 3002 := e481 ▸ hW479.1 10
    have ztk2_477 := tz_b tk2_477
    have btk2_477 : (0 : Int) ≤ tk2_477 ∧ tk2_477 ≤ 5 := e482 ▸ hW479.1 11
    have bfk2_478 : (0 : Int) ≤ fk2_478 ∧ fk2_478 ≤ 6 := e483 ▸ hW479.1 16
    refine .inl ⟨rfl, ?_⟩
    rcases q486 with ⟨a493, a494, a495, a496⟩ | ⟨a497, a498, a499, a500⟩
    · have _q : True := trivial
      have z501 := tz_f (tk2_477)
      exact c_readPar_w_at_95p (X := X) (k := k) (hP := hP) (d := d) (Vs := Vs) (sb := sb) (pb := pb) (hvb := hvb) (c0 := c0) (c1 := c1) (G := G) (A := A) (T := T) (lv := lv) (ln := ln) (li := li) (at0 := at0) (fk := fk) (nd := nd) (sy := sy) (na := na) (vi := vi) (le := le) (op0 := op0) (tk0 := tk0) (ec := ec) (hd := hd) (hW := hW) (e_ln := e_ln) (e_li := e_li) (e_at0 := e_at0) (e_fk := e_fk) (e_nd := e_nd) (e_sy := e_sy) (e_na := e_na) (e_vi := e_vi) (e_le := e_le) (e_op0 := e_op0) (e_tk0 := e_tk0) (e_ec := e_ec) (i_LT := i_LT) (i_SV := i_SV) (i_PQ := i_PQ) (h_lv := h_lv) (p_0 := p_0) (p_1 := p_1) (p_2 := p_2) (p_3 := p_3) (p_4 := p_4) (p_5 := p_5) (p_6 := p_6) (p_7 := p_7) (p_8 := p_8) (p_9 := p_9) (p_10 := p_10) L G474 A475 (n) (at2_476) (tk2_477) (fk2_478) (nd1) (op1) (sy1) (na1) (ec1) gL_0 gL_1 gL_2 hW479 hF487 hP488 hS489 hV490 ((e481)) ((e482)) ((e483)) (((hF480.1 31 rfl).trans (ex_nd1))) (((hF480.1 15 rfl).trans (ex_op1))) (((hF480.1 19 rfl).trans (ex_sy1))) (((hF480.1 28 rfl).trans (ex_na1))) (ec492) (((hF480.1 9 rfl).trans (fx_9))) (((hF480.1 29 rfl).trans (fx_29))) (by omega) (by omega) (by omega) (by omega) (by omega) (by omega) (by omega) (by omega) (by omega)
    · have _q : True := trivial
      have pz502 : at1 + tz tk2_477 ≤ at2_476 := by omega
      have z503 := tz_f (tk2_477)
      exact c_readPar_w_at_95 (X := X) (k := k) (hP := hP) (d := d) (Vs := Vs) (sb := sb) (pb := pb) (hvb := hvb) (c0 := c0) (c1 := c1) (G := G) (A := A) (T := T) (lv := lv) (ln := ln) (li := li) (at0 := at0) (fk := fk) (nd := nd) (sy := sy) (na := na) (vi := vi) (le := le) (op0 := op0) (tk0 := tk0) (ec := ec) (hd := hd) (hW := hW) (e_ln := e_ln) (e_li := e_li) (e_at0 := e_at0) (e_fk := e_fk) (e_nd := e_nd) (e_sy := e_sy) (e_na := e_na) (e_vi := e_vi) (e_le := e_le) (e_op0 := e_op0) (e_tk0 := e_tk0) (e_ec := e_ec) (i_LT := i_LT) (i_SV := i_SV) (i_PQ := i_PQ) (h_lv := h_lv) (p_0 := p_0) (p_1 := p_1) (p_2 := p_2) (p_3 := p_3) (p_4 := p_4) (p_5 := p_5) (p_6 := p_6) (p_7 := p_7) (p_8 := p_8) (p_9 := p_9) (p_10 := p_10) L G474 A475 (n) (at2_476) (tk2_477) (fk2_478) (nd1) (op1) (sy1) (na1) (sa1) (ka1) (ec1) gL_0 gL_1 gL_2 hW479 hF487 hP488 hS489 hV490 ((e481)) ((e482)) ((e483)) (((hF480.1 31 rfl).trans (ex_nd1))) (((hF480.1 15 rfl).trans (ex_op1))) (((hF480.1 19 rfl).trans (ex_sy1))) (((hF480.1 28 rfl).trans (ex_na1))) ((congrFun (hF480.2 17 rfl) _).trans (ex_sa1)) ((congrFun (hF480.2 7 rfl) _).trans (ex_ka1)) (ec492) (((hF480.1 9 rfl).trans (fx_9))) (((hF480.1 29 rfl).trans (fx_29))) (by omega) (by omega) (by omega) (by omega) (by omega) (by omega) (by omega) (by omega) (by omega) (by omega) (by omega) (by omega) (by omega) (sf491) (by omega)
  · have _q : True := trivial
    refine jx_vr (pc' := 95) (as := [.int (i32 (0))]) (st := []) rfl rfl rfl rfl ⟨rfl, rfl, Nat.le_of_ble_eq_true rfl⟩ rfl rfl (c_need (dd := d) (hd := by omega) (hW := hWx) (g := 0) (ln := ln) (e_ln := show Gx 9 = ln from (fx_9)) (le := le) (e_le := show Ax 4 (ln).toNat = le from (congrFun (hFx.2 4 rfl) _).trans (e_le)) (at0 := at1) (e_at0 := show Gx 10 = at1 from (ex_at1)) (fk := fk1) (e_fk := show Gx 16 = fk1 from (ex_fk1)) (tk0 := tk1) (e_tk0 := show Gx 11 = tk1 from (ex_tk1))  (h_g := ⟨(by decide), (by decide)⟩)  (p_0 := by omega)) (fun o V' hq => ?_)
    obtain ⟨G504, A505, at2_506, tk2_507, fk2_508, rfl, rfl, hW509, hF510, e511, e512, e513, p514, p515, q516⟩ := hq
    have hF517 := Fr_tr hFx hF510 (Fr_sub (by decide)) (Fr_sub (by decide))
    have hP518 := Pf_f hPx hF510 (by decide)
    have hS519 := Fx_f hSx hF510 (by decide)
    have hV520 := Fx_f hVx hF510 (by decide)
    have sf521 : ND A505 (n) (29) (sa1) (0) (0) (0) (0) (0) := ND_ag (by omega) (Ag_fr hF510 (by decide)) iv_12
    have ec522 : ecn A505 (G504 31) = ec1 := (ecn_f (hF510.2 15 rfl) (hF510.1 31 rfl)).trans ex_ec1
    have bat2_506 : (0 : Int) ≤ at2_506 ∧ at2_506 ≤ 3002 := e511 ▸ hW509.1 10
    have ztk2_507 := tz_b tk2_507
    have btk2_507 : (0 : Int) ≤ tk2_507 ∧ tk2_507 ≤ 5 := e512 ▸ hW509.1 11
    have bfk2_508 : (0 : Int) ≤ fk2_508 ∧ fk2_508 ≤ 6 := e513 ▸ hW509.1 16
    refine .inl ⟨rfl, ?_⟩
    rcases q516 with ⟨a523, a524, a525, a526⟩ | ⟨a527, a528, a529, a530⟩
    · have _q : True := trivial
      have z531 := tz_f (tk2_507)
      exact c_readPar_w_at_95p (X := X) (k := k) (hP := hP) (d := d) (Vs := Vs) (sb := sb) (pb := pb) (hvb := hvb) (c0 := c0) (c1 := c1) (G := G) (A := A) (T := T) (lv := lv) (ln := ln) (li := li) (at0 := at0) (fk := fk) (nd := nd) (sy := sy) (na := na) (vi := vi) (le := le) (op0 := op0) (tk0 := tk0) (ec := ec) (hd := hd) (hW := hW) (e_ln := e_ln) (e_li := e_li) (e_at0 := e_at0) (e_fk := e_fk) (e_nd := e_nd) (e_sy := e_sy) (e_na := e_na) (e_vi := e_vi) (e_le := e_le) (e_op0 := e_op0) (e_tk0 := e_tk0) (e_ec := e_ec) (i_LT := i_LT) (i_SV := i_SV) (i_PQ := i_PQ) (h_lv := h_lv) (p_0 := p_0) (p_1 := p_1) (p_2 := p_2) (p_3 := p_3) (p_4 := p_4) (p_5 := p_5) (p_6 := p_6) (p_7 := p_7) (p_8 := p_8) (p_9 := p_9) (p_10 := p_10) L G504 A505 (n) (at2_506) (tk2_507) (fk2_508) (nd1) (op1) (sy1) (na1) (ec1) gL_0 gL_1 gL_2 hW509 hF517 hP518 hS519 hV520 ((e511)) ((e512)) ((e513)) (((hF510.1 31 rfl).trans (ex_nd1))) (((hF510.1 15 rfl).trans (ex_op1))) (((hF510.1 19 rfl).trans (ex_sy1))) (((hF510.1 28 rfl).trans (ex_na1))) (ec522) (((hF510.1 9 rfl).trans (fx_9))) (((hF510.1 29 rfl).trans (fx_29))) (by omega) (by omega) (by omega) (by omega) (by omega) (by omega) (by omega) (by omega) (by omega)
    · have _q : True := trivial
      exfalso
      omega
set_option maxRecDepth 20000 in
set_option maxHeartbeats 4000000 in
theorem c_readPar_w {X : jX} {k : Nat} (hP : RPw X k) {dd : Nat} {Vs : Nat → Prop} {sb pb : Int} (hvb : VB Vs sb) {c0 c1 : jC} {G : Nat → Int} {A : Nat → Nat → Int} {T : jH} {lv : Int} {ln li at0 fk nd sy na vi le op0 tk0 ec : Int} (hd : 8 * k + 82 ≤ dd) (hW : Wk G A) (e_ln : G 9 = ln) (e_li : G 3 = li) (e_at0 : G 10 = at0) (e_fk : G 16 = fk) (e_nd : G 31 = nd) (e_sy : G 19 = sy) (e_na : G 28 = na) (e_vi : G 29 = vi) (e_le : A 4 (ln).toNat = le) (e_op0 : G 15 = op0) (e_tk0 : G 11 = tk0) (e_ec : ecn A (G 31) = ec) (i_LT : LT G A) (i_SV : SV Vs sb G A) (i_PQ : PQ Vs sb pb G A) (h_lv : (-2147483648 : Int) ≤ lv ∧ lv ≤ 2147483647) (p_0 : 0 ≤ lv ∧ lv ≤ 15) (p_1 : 18 - lv ≤ ((k + 1 : Nat) : Int)) (p_2 : fk = 0) (p_3 : ln < li) (p_4 : at0 ≤ le) (p_5 : op0 = 0) (p_6 : nd ≤ 2 * at0 - tz tk0 + 30) (p_7 : sy ≤ na + 2) (p_8 : vi ≤ sy) (p_9 : sb = sy) (p_10 : 1 ≤ tk0) : wk X dd 299 [.ref 66, .int (i32 lv)] (rV c0 c1 G A T) (fun o V' => ∃ (G' : Nat → Int) (A' : Nat → Nat → Int) (r : Int) (ln2 : Int) (at2 : Int) (fk2 : Int) (nd2 : Int) (sy2 : Int) (na2 : Int) (vi2 : Int) (lf2 : Int) (ec2 : Int), V' = rV c0 c1 G' A' T ∧ o = .inl (some (.int (i32 r))) ∧ Wk G' A' ∧ Fr [9, 10, 11, 12, 13, 14, 15, 16, 17, 18, 19, 28, 29, 31] [6, 7, 8, 9, 10, 11, 12, 14, 15, 16, 17, 18, 19, 20, 21, 22, 23, 24, 28] G A G' A' ∧ Pf nd A A' ∧ Fx sr (sy) A A' ∧ Fx [14] (vi) A A' ∧ ((-2147483648 : Int) ≤ r ∧ r ≤ 2147483647) ∧ G' 9 = ln2 ∧ G' 10 = at2 ∧ G' 16 = fk2 ∧ G' 31 = nd2 ∧ G' 19 = sy2 ∧ G' 28 = na2 ∧ G' 29 = vi2 ∧ A' 3 (ln2).toNat = lf2 ∧ ecn A' (G' 31) = ec2 ∧ (at0 ≤ at2) ∧ (nd ≤ nd2) ∧ (sy ≤ sy2) ∧ (sy2 ≤ na2 + 2) ∧ (vi ≤ vi2) ∧ (vi2 ≤ vi + 1) ∧ (0 ≤ r) ∧ (r ≤ 6999) ∧ (ln ≤ ln2) ∧ (ln2 ≤ li) ∧ (((1 ≤ fk2) ∧ (nd2 - nd ≤ 2 * at2 - (2 * at0 - tz tk0) + 14)) ∨ ((fk2 = 0) ∧ (vi2 = vi) ∧ (ln < ln2) ∧ (nd2 - nd ≤ 2 * at2 - (2 * at0 - tz tk0)) ∧ (at2 < lf2 ∨ li ≤ ln2) ∧ (nd ≤ r) ∧ (r < nd2) ∧ (wSt A' (sy2) pb (wP A' (sy2) pb (k)) (Vs) (r) (nd) (nd2) (sy) (sy2)) ∧ (NX A' (r)) ∧ (nd2 - nd + 5 * (ec2 - ec) ≤ 2 * at2 - (2 * at0 - tz tk0))))) := by
  obtain ⟨d, rfl⟩ : ∃ d, dd = d + 1 := ⟨dd - 1, by omega⟩
  refine wk_of (e := jm299) rfl (Nat.le_of_ble_eq_true rfl) ?_
  show wj X d jm299 (0, [(0, .ref 66), (1, .int (i32 (lv)))], [], rV c0 c1 G A T) _
  have hF0 : Fr [9, 10, 11, 12, 13, 14, 15, 16, 17, 18, 19, 28, 29, 31] [6, 7, 8, 9, 10, 11, 12, 14, 15, 16, 17, 18, 19, 20, 21, 22, 23, 24, 28] G A G A := Fr_rf
  have hP0 : Pf nd A A := Pf_rf
  have hS0 : Fx sr (sy) A A := Fx_rf
  have hV0 : Fx [14] (vi) A A := Fx_rf
  have b_ln : (0 : Int) ≤ ln ∧ ln ≤ 3000 := e_ln ▸ hW.1 9
  have b_li : (0 : Int) ≤ li ∧ li ≤ 3000 := e_li ▸ hW.1 3
  have b_at0 : (0 : Int) ≤ at0 ∧ at0 ≤ 3002 := e_at0 ▸ hW.1 10
  have b_fk : (0 : Int) ≤ fk ∧ fk ≤ 6 := e_fk ▸ hW.1 16
  have b_nd : (0 : Int) ≤ nd ∧ nd ≤ 6999 := e_nd ▸ hW.1 31
  have b_sy : (0 : Int) ≤ sy ∧ sy ≤ 202 := e_sy ▸ hW.1 19
  have b_na : (0 : Int) ≤ na ∧ na ≤ 200 := e_na ▸ hW.1 28
  have b_vi : (0 : Int) ≤ vi ∧ vi ≤ 202 := e_vi ▸ hW.1 29
  have b_le : (0 : Int) ≤ le ∧ le ≤ 3000 := e_le ▸ hW.2 4 _
  have b_op0 : (-2147483648 : Int) ≤ op0 ∧ op0 ≤ 2147483647 := e_op0 ▸ hW.1 15
  have z_tk0 := tz_f tk0
  have b_tk0 : (0 : Int) ≤ tk0 ∧ tk0 ≤ 5 := e_tk0 ▸ hW.1 11
  refine jx_ld (pc' := 1) (l' := [(0, .ref 66), (1, .int (i32 (lv)))]) (st' := [.ref 66]) rfl (jl_aloadn rfl) ?_
  refine jx_vr (pc' := 4) (as := []) (st := []) rfl rfl rfl rfl ⟨rfl, rfl, Nat.le_of_ble_eq_true rfl⟩ rfl rfl (c_next (dd := d) (hd := by omega) (hW := hW)  (ln := ln) (e_ln := show G 9 = ln from (e_ln)) (le := le) (e_le := show A 4 (ln).toNat = le from (e_le)) (at0 := at0) (e_at0 := show G 10 = at0 from (e_at0))    (p_0 := by omega)) (fun o V' hq => ?_)
  obtain ⟨G532, A533, at2_534, tk2_535, rfl, rfl, hW536, hF537, e538, e539, p540, p541, p542, -⟩ := hq
  have hF544 := Fr_tr hF0 hF537 (Fr_sub (by decide)) (Fr_sub (by decide))
  have hP545 := Pf_f hP0 hF537 (by decide)
  have hS546 := Fx_f hS0 hF537 (by decide)
  have hV547 := Fx_f hV0 hF537 (by decide)
  have ec548 : ecn A533 (G532 31) = ec := (ecn_f (hF537.2 15 rfl) (hF537.1 31 rfl)).trans e_ec
  have bat2_534 : (0 : Int) ≤ at2_534 ∧ at2_534 ≤ 3002 := e538 ▸ hW536.1 10
  have ztk2_535 := tz_b tk2_535
  have btk2_535 : (0 : Int) ≤ tk2_535 ∧ tk2_535 ≤ 5 := e539 ▸ hW536.1 11
  refine .inl ⟨rfl, ?_⟩
  have pz549 : at0 + tz tk2_535 ≤ at2_534 := by omega
  refine jx_ld (pc' := 5) (l' := [(0, .ref 66), (1, .int (i32 (lv)))]) (st' := [.ref 66]) rfl (jl_aloadn rfl) ?_
  have z550 := tz_f (tk2_535)
  refine jr_get (pc' := 8) (i := 11) (v := .int (i32 (tk2_535))) rfl rfl (by decide) (rFv_eq (by decide) (show G532 11 = tk2_535 from (e539))) rfl ?_
  refine jx_if_ne (pc' := 11) (tg := 37) rfl rfl rfl (Int.le_trans (by decide : (-2147483648 : Int) ≤ 0) btk2_535.1) (Int.le_trans btk2_535.2 (by decide : (5 : Int) ≤ 2147483647)) (fun h551 => ?_) (fun h551 => ?_)
  · have _q := h551
    refine jx_ld (pc' := 38) (l' := [(0, .ref 66), (1, .int (i32 (lv)))]) (st' := [.ref 66]) rfl (jl_aloadn rfl) ?_
    have z552 := tz_f (tk2_535)
    refine jr_get (pc' := 41) (i := 11) (v := .int (i32 (tk2_535))) rfl rfl (by decide) (rFv_eq (by decide) (show G532 11 = tk2_535 from (e539))) rfl ?_
    refine jx_ar (pc' := 42) (st' := [.int (i32 (1)), .int (i32 (tk2_535))]) rfl rfl rfl rfl ?_
    refine jx_icmp_eq (pc' := 45) (tg := 56) rfl rfl rfl (Int.le_trans (by decide : (-2147483648 : Int) ≤ 0) btk2_535.1) (Int.le_trans btk2_535.2 (by decide : (5 : Int) ≤ 2147483647)) (by decide) (by decide) (fun h553 => ?_) (fun h553 => ?_)
    · have _q := h553
      refine jx_ld (pc' := 57) (l' := [(0, .ref 66), (1, .int (i32 (lv)))]) (st' := [.ref 66]) rfl (jl_aloadn rfl) ?_
      refine jx_ar (pc' := 59) (st' := [.int (i32 (29)), .ref 66]) rfl rfl rfl rfl ?_
      refine jx_ar (pc' := 60) (st' := [.int (i32 (0)), .int (i32 (29)), .ref 66]) rfl rfl rfl rfl ?_
      refine jx_ar (pc' := 61) (st' := [.int (i32 (0)), .int (i32 (0)), .int (i32 (29)), .ref 66]) rfl rfl rfl rfl ?_
      refine jx_ar (pc' := 62) (st' := [.int (i32 (0)), .int (i32 (0)), .int (i32 (0)), .int (i32 (29)), .ref 66]) rfl rfl rfl rfl ?_
      refine jx_ar (pc' := 63) (st' := [.int (i32 (0)), .int (i32 (0)), .int (i32 (0)), .int (i32 (0)), .int (i32 (29)), .ref 66]) rfl rfl rfl rfl ?_
      refine jx_vr (pc' := 66) (as := [.int (i32 (29)), .int (i32 (0)), .int (i32 (0)), .int (i32 (0)), .int (i32 (0))]) (st := []) rfl rfl rfl rfl ⟨rfl, rfl, Nat.le_of_ble_eq_true rfl⟩ rfl rfl (c_node_o (dd := d) (hd := by omega) (hW := hW536) (kind := 29) (a := 0) (b := 0) (c := 0) (e := 0) (nd := nd) (e_nd := show G532 31 = nd from ((hF537.1 31 rfl).trans (e_nd))) (ec := ec) (e_ec := show ecn A533 (G532 31) = ec from ec548)  (h_kind := ⟨(by decide), (by decide)⟩) (h_a := ⟨(by decide), (by decide)⟩) (h_b := ⟨(by decide), (by decide)⟩) (h_c := ⟨(by decide), (by decide)⟩) (h_e := ⟨(by decide), (by decide)⟩)  (p_0 := by omega) (p_1 := by omega) (p_2 := by omega)) (fun o V' hq => ?_)
      obtain ⟨G554, A555, nd2_556, ec2_557, rfl, rfl, hW558, hF559, hQ560, e561, e562, p563, p564, p565, -⟩ := hq
      have hF567 := Fr_tr hF544 hF559 (Fr_sub (by decide)) (Fr_sub (by decide))
      have hP568 := Pf_tr hP545 hQ560 (by omega)
      have hS569 := Fx_f hS546 hF559 (by decide)
      have hV570 := Fx_f hV547 hF559 (by decide)
      have bnd2_556 : (0 : Int) ≤ nd2_556 ∧ nd2_556 ≤ 6999 := e561 ▸ hW558.1 31
      refine .inr ⟨_, rfl, ?_⟩
      refine jx_ld (pc' := 67) (l' := jSto1 [(0, .ref 66), (1, .int (i32 (lv)))] 2 (.int (i32 (nd)))) (st' := []) rfl rfl ?_
      obtain ⟨L571, eL571⟩ : ∃ q, q = jSto1 [(0, .ref 66), (1, .int (i32 (lv)))] 2 (.int (i32 (nd))) := ⟨_, rfl⟩
      rw [← eL571]
      have gL571_0 : jGet L571 0 = some (.ref 66) := eL571 ▸ jg_ne (by decide) (rfl : jGet [(0, .ref 66), (1, .int (i32 (lv)))] 0 = some (.ref 66)) rfl
      have gL571_1 : jGet L571 1 = some (.int (i32 (lv))) := eL571 ▸ jg_ne (by decide) (rfl : jGet [(0, .ref 66), (1, .int (i32 (lv)))] 1 = some (.int (i32 (lv)))) rfl
      have gL571_2 : jGet L571 2 = some (.int (i32 (nd))) := eL571 ▸ jg_eq
      refine jx_ld (pc' := 68) (l' := L571) (st' := [.ref 66]) rfl (jl_aloadn gL571_0) ?_
      refine jr_get (pc' := 71) (i := 34) (v := .ref 84) rfl rfl (by decide) rfl rfl ?_
      refine jx_ld (pc' := 72) (l' := L571) (st' := [.int (i32 (nd)), .ref 84]) rfl (jl_iloadn gL571_2) ?_
      refine jx_ld (pc' := 73) (l' := L571) (st' := [.ref 66, .int (i32 (nd)), .ref 84]) rfl (jl_aloadn gL571_0) ?_
      refine jx_ar (pc' := 75) (st' := [.int (i32 (10)), .ref 66, .int (i32 (nd)), .ref 84]) rfl rfl rfl rfl ?_
      refine jx_ar (pc' := 76) (st' := [.int (i32 (0)), .int (i32 (10)), .ref 66, .int (i32 (nd)), .ref 84]) rfl rfl rfl rfl ?_
      refine jx_vr (pc' := 79) (as := [.int (i32 (10)), .int (i32 (0))]) (st := [.int (i32 (nd)), .ref 84]) rfl rfl rfl rfl ⟨rfl, rfl, Nat.le_of_ble_eq_true rfl⟩ rfl rfl (c_newName (dd := d) (hd := by omega) (hW := hW558) (kind := 10) (many := 0) (sy := sy) (e_sy := show G554 19 = sy from ((hF559.1 19 rfl).trans ((hF537.1 19 rfl).trans (e_sy)))) (na := na) (e_na := show G554 28 = na from ((hF559.1 28 rfl).trans ((hF537.1 28 rfl).trans (e_na)))) (fk := fk) (e_fk := show G554 16 = fk from ((hF559.1 16 rfl).trans ((hF537.1 16 rfl).trans (e_fk))))  (h_kind := ⟨(by decide), (by decide)⟩) (h_many := ⟨(by decide), (by decide)⟩)  (p_0 := by omega) (p_1 := by omega)) (fun o V' hq => ?_)
      obtain ⟨G572, A573, r574, sy2_575, na2_576, fk2_577, yk2_578, rfl, rfl, hW579, hF580, hQ581, b582, e583, e584, e585, e586, q587⟩ := hq
      have hF588 := Fr_tr hF567 hF580 (Fr_sub (by decide)) (Fr_sub (by decide))
      have hP589 := Pf_f hP568 hF580 (by decide)
      have hS590 := Fx_tr hS569 hQ581 (by omega)
      have hV591 := Fx_f hV570 hF580 (by decide)
      have sf592 : ND A573 (nd) (29) (0) (0) (0) (0) (0) (0) := ND_ag (by omega) (Ag_fr hF580 (by decide)) p565
      have ec593 : ecn A573 (G572 31) = ec2_557 := (ecn_f (hF580.2 15 rfl) (hF580.1 31 rfl)).trans e562
      have bsy2_575 : (0 : Int) ≤ sy2_575 ∧ sy2_575 ≤ 202 := e583 ▸ hW579.1 19
      have bna2_576 : (0 : Int) ≤ na2_576 ∧ na2_576 ≤ 200 := e584 ▸ hW579.1 28
      have bfk2_577 : (0 : Int) ≤ fk2_577 ∧ fk2_577 ≤ 6 := e585 ▸ hW579.1 16
      have byk2_578 : (0 : Int) ≤ yk2_578 ∧ yk2_578 ≤ 14 := e586 ▸ hW579.2 7 _
      refine .inr ⟨_, rfl, ?_⟩
      rcases q587 with ⟨a600, a594, a595, a596, a597, a598, a599⟩ | ⟨rfl, a601, a602, a603⟩
      · have _q : True := trivial
        rw [a600]
        refine jr_st (pc' := 80) (i := 17) (m := 7000) (z := nd) (y := sy) rfl (by decide) rfl (by decide) (by omega) (by omega) rfl ?_
        have hW605 : Wk G572 (uA A573 17 (nd).toNat (sy)) := Wk_a hW579 (show (-2147483648 : Int) ≤ sy by omega) (show sy ≤ (2147483647 : Int) by omega)
        have hF606 := Fr_a (z := sy) (k := 17) (n := (nd).toNat) hF588 (by decide)
        obtain ⟨A604, eA604⟩ : ∃ q, q = uA A573 17 (nd).toNat (sy) := ⟨_, rfl⟩
        rw [← eA604]
        rw [← eA604] at hW605 hF606
        have q607 : A604 17 (nd).toNat = sy := by rw [eA604]; exact uA_eq
        have hP608 : Pf nd A A604 := eA604 ▸ Pf_a hP589 (z := nd) (by omega) (by omega)
        have hS609 : Fx sr (sy) A A604 := eA604 ▸ Fx_n hS590 rfl
        have hV610 : Fx [14] (vi) A A604 := eA604 ▸ Fx_n hV591 rfl
        have sf611 : ND A604 (nd) (29) (sy) (0) (0) (0) (0) (0) := ND_a eA604 sf592
        have sf612 : YD A604 (sy) (10) (0) := YD_fx (by omega) (by omega) (Sg_ne (sb := sy + 1) eA604 rfl) a599
        have ec613 : ecn A604 (G572 31) = ec2_557 := (ecn_e ((congrFun eA604 15).trans (uA_ne (by decide)))).trans ec593
        refine jx_ld (pc' := 81) (l' := L571) (st' := [.ref 66]) rfl (jl_aloadn gL571_0) ?_
        refine jx_ar (pc' := 82) (st' := [.int (i32 (1)), .ref 66]) rfl rfl rfl rfl ?_
        refine jx_vr (pc' := 85) (as := [.int (i32 (1))]) (st := []) rfl rfl rfl rfl ⟨rfl, rfl, Nat.le_of_ble_eq_true rfl⟩ rfl rfl (c_need (dd := d) (hd := by omega) (hW := hW605) (g := 1) (ln := ln) (e_ln := show G572 9 = ln from ((hF580.1 9 rfl).trans ((hF559.1 9 rfl).trans ((hF537.1 9 rfl).trans (e_ln))))) (le := le) (e_le := show A604 4 (ln).toNat = le from (congrFun (((congrFun eA604 4).trans (uA_ne (by decide))).trans ((hF580.2 4 rfl).trans ((hF559.2 4 rfl).trans (hF537.2 4 rfl)))) _).trans (e_le)) (at0 := at2_534) (e_at0 := show G572 10 = at2_534 from ((hF580.1 10 rfl).trans ((hF559.1 10 rfl).trans (e538)))) (fk := fk2_577) (e_fk := show G572 16 = fk2_577 from (e585)) (tk0 := tk2_535) (e_tk0 := show G572 11 = tk2_535 from ((hF580.1 11 rfl).trans ((hF559.1 11 rfl).trans (e539))))  (h_g := ⟨(by decide), (by decide)⟩)  (p_0 := by omega)) (fun o V' hq => ?_)
        obtain ⟨G614, A615, at2_616, tk2_617, fk2_618, rfl, rfl, hW619, hF620, e621, e622, e623, p624, p625, q626⟩ := hq
        have hF627 := Fr_tr hF606 hF620 (Fr_sub (by decide)) (Fr_sub (by decide))
        have hP628 := Pf_f hP608 hF620 (by decide)
        have hS629 := Fx_f hS609 hF620 (by decide)
        have hV630 := Fx_f hV610 hF620 (by decide)
        have sf631 : ND A615 (nd) (29) (sy) (0) (0) (0) (0) (0) := ND_ag (by omega) (Ag_fr hF620 (by decide)) sf611
        have sf632 : YD A615 (sy) (10) (0) := YD_fx (by omega) (by omega) (Sg_fr (sb := sy + 1) hF620 (by decide)) sf612
        have ec633 : ecn A615 (G614 31) = ec2_557 := (ecn_f (hF620.2 15 rfl) (hF620.1 31 rfl)).trans ec613
        have bat2_616 : (0 : Int) ≤ at2_616 ∧ at2_616 ≤ 3002 := e621 ▸ hW619.1 10
        have ztk2_617 := tz_b tk2_617
        have btk2_617 : (0 : Int) ≤ tk2_617 ∧ tk2_617 ≤ 5 := e622 ▸ hW619.1 11
        have bfk2_618 : (0 : Int) ≤ fk2_618 ∧ fk2_618 ≤ 6 := e623 ▸ hW619.1 16
        refine .inl ⟨rfl, ?_⟩
        rcases q626 with ⟨a634, a635, a636, a637⟩ | ⟨a638, a639, a640, a641⟩
        · have _q : True := trivial
          have z642 := tz_f (tk2_617)
          exact c_readPar_w_at_85p (X := X) (k := k) (hP := hP) (d := d) (Vs := Vs) (sb := sb) (pb := pb) (hvb := hvb) (c0 := c0) (c1 := c1) (G := G) (A := A) (T := T) (lv := lv) (ln := ln) (li := li) (at0 := at0) (fk := fk) (nd := nd) (sy := sy) (na := na) (vi := vi) (le := le) (op0 := op0) (tk0 := tk0) (ec := ec) (hd := hd) (hW := hW) (e_ln := e_ln) (e_li := e_li) (e_at0 := e_at0) (e_fk := e_fk) (e_nd := e_nd) (e_sy := e_sy) (e_na := e_na) (e_vi := e_vi) (e_le := e_le) (e_op0 := e_op0) (e_tk0 := e_tk0) (e_ec := e_ec) (i_LT := i_LT) (i_SV := i_SV) (i_PQ := i_PQ) (h_lv := h_lv) (p_0 := p_0) (p_1 := p_1) (p_2 := p_2) (p_3 := p_3) (p_4 := p_4) (p_5 := p_5) (p_6 := p_6) (p_7 := p_7) (p_8 := p_8) (p_9 := p_9) (p_10 := p_10) L571 G614 A615 (nd) (at2_616) (tk2_617) (fk2_618) (nd2_556) (op0) (sy2_575) (na2_576) (ec2_557) gL571_0 gL571_1 gL571_2 hW619 hF627 hP628 hS629 hV630 ((e621)) ((e622)) ((e623)) (((hF620.1 31 rfl).trans ((hF580.1 31 rfl).trans (e561)))) (((hF620.1 15 rfl).trans ((hF580.1 15 rfl).trans ((hF559.1 15 rfl).trans ((hF537.1 15 rfl).trans (e_op0)))))) (((hF620.1 19 rfl).trans (e583))) (((hF620.1 28 rfl).trans (e584))) (ec633) (((hF620.1 9 rfl).trans ((hF580.1 9 rfl).trans ((hF559.1 9 rfl).trans ((hF537.1 9 rfl).trans (e_ln)))))) (((hF620.1 29 rfl).trans ((hF580.1 29 rfl).trans ((hF559.1 29 rfl).trans ((hF537.1 29 rfl).trans (e_vi)))))) (by omega) (by omega) (by omega) (by omega) (by omega) (by omega) (by omega) (by omega) (by omega)
        · have _q : True := trivial
          have pz643 : at2_534 + tz tk2_617 ≤ at2_616 := by omega
          have z644 := tz_f (tk2_617)
          exact c_readPar_w_at_85 (X := X) (k := k) (hP := hP) (d := d) (Vs := Vs) (sb := sb) (pb := pb) (hvb := hvb) (c0 := c0) (c1 := c1) (G := G) (A := A) (T := T) (lv := lv) (ln := ln) (li := li) (at0 := at0) (fk := fk) (nd := nd) (sy := sy) (na := na) (vi := vi) (le := le) (op0 := op0) (tk0 := tk0) (ec := ec) (hd := hd) (hW := hW) (e_ln := e_ln) (e_li := e_li) (e_at0 := e_at0) (e_fk := e_fk) (e_nd := e_nd) (e_sy := e_sy) (e_na := e_na) (e_vi := e_vi) (e_le := e_le) (e_op0 := e_op0) (e_tk0 := e_tk0) (e_ec := e_ec) (i_LT := i_LT) (i_SV := i_SV) (i_PQ := i_PQ) (h_lv := h_lv) (p_0 := p_0) (p_1 := p_1) (p_2 := p_2) (p_3 := p_3) (p_4 := p_4) (p_5 := p_5) (p_6 := p_6) (p_7 := p_7) (p_8 := p_8) (p_9 := p_9) (p_10 := p_10) L571 G614 A615 (nd) (at2_616) (tk2_617) (fk2_618) (nd2_556) (op0) (sy2_575) (na2_576) (sy) (yk2_578) (ec2_557) gL571_0 gL571_1 gL571_2 hW619 hF627 hP628 hS629 hV630 ((e621)) ((e622)) ((e623)) (((hF620.1 31 rfl).trans ((hF580.1 31 rfl).trans (e561)))) (((hF620.1 15 rfl).trans ((hF580.1 15 rfl).trans ((hF559.1 15 rfl).trans ((hF537.1 15 rfl).trans (e_op0)))))) (((hF620.1 19 rfl).trans (e583))) (((hF620.1 28 rfl).trans (e584))) ((congrFun (hF620.2 17 rfl) _).trans (q607)) ((congrFun ((hF620.2 7 rfl).trans ((congrFun eA604 7).trans (uA_ne (by decide)))) _).trans (e586)) (ec633) (((hF620.1 9 rfl).trans ((hF580.1 9 rfl).trans ((hF559.1 9 rfl).trans ((hF537.1 9 rfl).trans (e_ln)))))) (((hF620.1 29 rfl).trans ((hF580.1 29 rfl).trans ((hF559.1 29 rfl).trans ((hF537.1 29 rfl).trans (e_vi)))))) (by omega) (by omega) (by omega) (by omega) (by omega) (by omega) (by omega) (by omega) (by omega) (by omega) (by omega) (by omega) (by omega) (sf631) (by omega)
      · have _q : True := trivial
        refine jr_st (pc' := 80) (i := 17) (m := 7000) (z := nd) (y := 0) rfl (by decide) rfl (by decide) (by omega) (by omega) rfl ?_
        have hW646 : Wk G572 (uA A573 17 (nd).toNat (0)) := Wk_a hW579 (show (-2147483648 : Int) ≤ 0 by omega) (show 0 ≤ (2147483647 : Int) by omega)
        have hF647 := Fr_a (z := 0) (k := 17) (n := (nd).toNat) hF588 (by decide)
        obtain ⟨A645, eA645⟩ : ∃ q, q = uA A573 17 (nd).toNat (0) := ⟨_, rfl⟩
        rw [← eA645]
        rw [← eA645] at hW646 hF647
        have q648 : A645 17 (nd).toNat = 0 := by rw [eA645]; exact uA_eq
        have hP649 : Pf nd A A645 := eA645 ▸ Pf_a hP589 (z := nd) (by omega) (by omega)
        have hS650 : Fx sr (sy) A A645 := eA645 ▸ Fx_n hS590 rfl
        have hV651 : Fx [14] (vi) A A645 := eA645 ▸ Fx_n hV591 rfl
        have sf652 : ND A645 (nd) (29) (0) (0) (0) (0) (0) (0) := ND_a eA645 sf592
        have ec653 : ecn A645 (G572 31) = ec2_557 := (ecn_e ((congrFun eA645 15).trans (uA_ne (by decide)))).trans ec593
        refine jx_ld (pc' := 81) (l' := L571) (st' := [.ref 66]) rfl (jl_aloadn gL571_0) ?_
        refine jx_ar (pc' := 82) (st' := [.int (i32 (1)), .ref 66]) rfl rfl rfl rfl ?_
        refine jx_vr (pc' := 85) (as := [.int (i32 (1))]) (st := []) rfl rfl rfl rfl ⟨rfl, rfl, Nat.le_of_ble_eq_true rfl⟩ rfl rfl (c_need (dd := d) (hd := by omega) (hW := hW646) (g := 1) (ln := ln) (e_ln := show G572 9 = ln from ((hF580.1 9 rfl).trans ((hF559.1 9 rfl).trans ((hF537.1 9 rfl).trans (e_ln))))) (le := le) (e_le := show A645 4 (ln).toNat = le from (congrFun (((congrFun eA645 4).trans (uA_ne (by decide))).trans ((hF580.2 4 rfl).trans ((hF559.2 4 rfl).trans (hF537.2 4 rfl)))) _).trans (e_le)) (at0 := at2_534) (e_at0 := show G572 10 = at2_534 from ((hF580.1 10 rfl).trans ((hF559.1 10 rfl).trans (e538)))) (fk := fk2_577) (e_fk := show G572 16 = fk2_577 from (e585)) (tk0 := tk2_535) (e_tk0 := show G572 11 = tk2_535 from ((hF580.1 11 rfl).trans ((hF559.1 11 rfl).trans (e539))))  (h_g := ⟨(by decide), (by decide)⟩)  (p_0 := by omega)) (fun o V' hq => ?_)
        obtain ⟨G654, A655, at2_656, tk2_657, fk2_658, rfl, rfl, hW659, hF660, e661, e662, e663, p664, p665, q666⟩ := hq
        have hF667 := Fr_tr hF647 hF660 (Fr_sub (by decide)) (Fr_sub (by decide))
        have hP668 := Pf_f hP649 hF660 (by decide)
        have hS669 := Fx_f hS650 hF660 (by decide)
        have hV670 := Fx_f hV651 hF660 (by decide)
        have sf671 : ND A655 (nd) (29) (0) (0) (0) (0) (0) (0) := ND_ag (by omega) (Ag_fr hF660 (by decide)) sf652
        have ec672 : ecn A655 (G654 31) = ec2_557 := (ecn_f (hF660.2 15 rfl) (hF660.1 31 rfl)).trans ec653
        have bat2_656 : (0 : Int) ≤ at2_656 ∧ at2_656 ≤ 3002 := e661 ▸ hW659.1 10
        have ztk2_657 := tz_b tk2_657
        have btk2_657 : (0 : Int) ≤ tk2_657 ∧ tk2_657 ≤ 5 := e662 ▸ hW659.1 11
        have bfk2_658 : (0 : Int) ≤ fk2_658 ∧ fk2_658 ≤ 6 := e663 ▸ hW659.1 16
        refine .inl ⟨rfl, ?_⟩
        rcases q666 with ⟨a673, a674, a675, a676⟩ | ⟨a677, a678, a679, a680⟩
        · have _q : True := trivial
          have z681 := tz_f (tk2_657)
          exact c_readPar_w_at_85p (X := X) (k := k) (hP := hP) (d := d) (Vs := Vs) (sb := sb) (pb := pb) (hvb := hvb) (c0 := c0) (c1 := c1) (G := G) (A := A) (T := T) (lv := lv) (ln := ln) (li := li) (at0 := at0) (fk := fk) (nd := nd) (sy := sy) (na := na) (vi := vi) (le := le) (op0 := op0) (tk0 := tk0) (ec := ec) (hd := hd) (hW := hW) (e_ln := e_ln) (e_li := e_li) (e_at0 := e_at0) (e_fk := e_fk) (e_nd := e_nd) (e_sy := e_sy) (e_na := e_na) (e_vi := e_vi) (e_le := e_le) (e_op0 := e_op0) (e_tk0 := e_tk0) (e_ec := e_ec) (i_LT := i_LT) (i_SV := i_SV) (i_PQ := i_PQ) (h_lv := h_lv) (p_0 := p_0) (p_1 := p_1) (p_2 := p_2) (p_3 := p_3) (p_4 := p_4) (p_5 := p_5) (p_6 := p_6) (p_7 := p_7) (p_8 := p_8) (p_9 := p_9) (p_10 := p_10) L571 G654 A655 (nd) (at2_656) (tk2_657) (fk2_658) (nd2_556) (op0) (sy2_575) (na2_576) (ec2_557) gL571_0 gL571_1 gL571_2 hW659 hF667 hP668 hS669 hV670 ((e661)) ((e662)) ((e663)) (((hF660.1 31 rfl).trans ((hF580.1 31 rfl).trans (e561)))) (((hF660.1 15 rfl).trans ((hF580.1 15 rfl).trans ((hF559.1 15 rfl).trans ((hF537.1 15 rfl).trans (e_op0)))))) (((hF660.1 19 rfl).trans (e583))) (((hF660.1 28 rfl).trans (e584))) (ec672) (((hF660.1 9 rfl).trans ((hF580.1 9 rfl).trans ((hF559.1 9 rfl).trans ((hF537.1 9 rfl).trans (e_ln)))))) (((hF660.1 29 rfl).trans ((hF580.1 29 rfl).trans ((hF559.1 29 rfl).trans ((hF537.1 29 rfl).trans (e_vi)))))) (by omega) (by omega) (by omega) (by omega) (by omega) (by omega) (by omega) (by omega) (by omega)
        · have _q : True := trivial
          exfalso
          omega
    · have _q := h553
      refine jx_ld (pc' := 46) (l' := [(0, .ref 66), (1, .int (i32 (lv)))]) (st' := [.ref 66]) rfl (jl_aloadn rfl) ?_
      refine jx_ar (pc' := 47) (st' := [.int (i32 (1)), .ref 66]) rfl rfl rfl rfl ?_
      refine jx_ld (pc' := 48) (l' := [(0, .ref 66), (1, .int (i32 (lv)))]) (st' := [.ref 66, .int (i32 (1)), .ref 66]) rfl (jl_aloadn rfl) ?_
      have b682 : (-3000 : Int) ≤ G532 12 ∧ G532 12 ≤ 3002 := hW536.1 12
      refine jr_get (pc' := 51) (i := 12) (v := .int (i32 (G532 12))) rfl rfl (by decide) rfl rfl ?_
      refine jx_vr (pc' := 54) (as := [.int (i32 (1)), .int (i32 (G532 12))]) (st := []) rfl rfl rfl rfl ⟨rfl, rfl, Nat.le_of_ble_eq_true rfl⟩ rfl rfl (c_fail (dd := d) (hd := by omega) (hW := hW536) (kind := 1) (place := G532 12) (fk := fk) (e_fk := show G532 16 = fk from ((hF537.1 16 rfl).trans (e_fk)))  (h_kind := ⟨(by decide), (by decide)⟩) (h_place := ⟨(Int.le_trans (by decide : (-2147483648 : Int) ≤ -3000) b682.1), (Int.le_trans b682.2 (by decide : (3002 : Int) ≤ 2147483647))⟩)  (p_0 := by omega) (p_1 := by omega)) (fun o V' hq => ?_)
      obtain ⟨G683, A684, fk2_685, rfl, rfl, hW686, hF687, e688, p689, -⟩ := hq
      have hF691 := Fr_tr hF544 hF687 (Fr_sub (by decide)) (Fr_sub (by decide))
      have hP692 := Pf_f hP545 hF687 (by decide)
      have hS693 := Fx_f hS546 hF687 (by decide)
      have hV694 := Fx_f hV547 hF687 (by decide)
      have ec695 : ecn A684 (G683 31) = ec := (ecn_f (hF687.2 15 rfl) (hF687.1 31 rfl)).trans ec548
      have bfk2_685 : (0 : Int) ≤ fk2_685 ∧ fk2_685 ≤ 6 := e688 ▸ hW686.1 16
      refine .inl ⟨rfl, ?_⟩
      refine jx_ar (pc' := 55) (st' := [.int (i32 (0))]) rfl rfl rfl rfl ?_
      refine jx_rt (v := some (.int (i32 (0)))) rfl rfl rfl rfl rfl rfl ?_
      exact ⟨_, _, _, ln, at2_534, fk2_685, nd, sy, na, vi, A 3 (ln).toNat, ec, rfl, rfl, hW686, hF691, hP692, hS693, hV694, by omega, ((hF687.1 9 rfl).trans ((hF537.1 9 rfl).trans (e_ln))), ((hF687.1 10 rfl).trans (e538)), (e688), ((hF687.1 31 rfl).trans ((hF537.1 31 rfl).trans (e_nd))), ((hF687.1 19 rfl).trans ((hF537.1 19 rfl).trans (e_sy))), ((hF687.1 28 rfl).trans ((hF537.1 28 rfl).trans (e_na))), ((hF687.1 29 rfl).trans ((hF537.1 29 rfl).trans (e_vi))), (congrFun ((hF687.2 3 rfl).trans (hF537.2 3 rfl)) _), ec695, by omega, by omega, by omega, by omega, by omega, by omega, by omega, by omega, by omega, by omega, by first | exact Or.inl (⟨by omega, by omega⟩)⟩
  · have _q := h551
    refine jx_ld (pc' := 12) (l' := [(0, .ref 66), (1, .int (i32 (lv)))]) (st' := [.ref 66]) rfl (jl_aloadn rfl) ?_
    refine jx_ar (pc' := 14) (st' := [.int (i32 (28)), .ref 66]) rfl rfl rfl rfl ?_
    refine jx_ar (pc' := 15) (st' := [.int (i32 (0)), .int (i32 (28)), .ref 66]) rfl rfl rfl rfl ?_
    refine jx_ar (pc' := 16) (st' := [.int (i32 (0)), .int (i32 (0)), .int (i32 (28)), .ref 66]) rfl rfl rfl rfl ?_
    refine jx_ar (pc' := 17) (st' := [.int (i32 (0)), .int (i32 (0)), .int (i32 (0)), .int (i32 (28)), .ref 66]) rfl rfl rfl rfl ?_
    refine jx_ar (pc' := 18) (st' := [.int (i32 (0)), .int (i32 (0)), .int (i32 (0)), .int (i32 (0)), .int (i32 (28)), .ref 66]) rfl rfl rfl rfl ?_
    refine jx_vr (pc' := 21) (as := [.int (i32 (28)), .int (i32 (0)), .int (i32 (0)), .int (i32 (0)), .int (i32 (0))]) (st := []) rfl rfl rfl rfl ⟨rfl, rfl, Nat.le_of_ble_eq_true rfl⟩ rfl rfl (c_node_o (dd := d) (hd := by omega) (hW := hW536) (kind := 28) (a := 0) (b := 0) (c := 0) (e := 0) (nd := nd) (e_nd := show G532 31 = nd from ((hF537.1 31 rfl).trans (e_nd))) (ec := ec) (e_ec := show ecn A533 (G532 31) = ec from ec548)  (h_kind := ⟨(by decide), (by decide)⟩) (h_a := ⟨(by decide), (by decide)⟩) (h_b := ⟨(by decide), (by decide)⟩) (h_c := ⟨(by decide), (by decide)⟩) (h_e := ⟨(by decide), (by decide)⟩)  (p_0 := by omega) (p_1 := by omega) (p_2 := by omega)) (fun o V' hq => ?_)
    obtain ⟨G696, A697, nd2_698, ec2_699, rfl, rfl, hW700, hF701, hQ702, e703, e704, p705, p706, p707, -⟩ := hq
    have hF709 := Fr_tr hF544 hF701 (Fr_sub (by decide)) (Fr_sub (by decide))
    have hP710 := Pf_tr hP545 hQ702 (by omega)
    have hS711 := Fx_f hS546 hF701 (by decide)
    have hV712 := Fx_f hV547 hF701 (by decide)
    have bnd2_698 : (0 : Int) ≤ nd2_698 ∧ nd2_698 ≤ 6999 := e703 ▸ hW700.1 31
    refine .inr ⟨_, rfl, ?_⟩
    refine jx_ld (pc' := 22) (l' := jSto1 [(0, .ref 66), (1, .int (i32 (lv)))] 2 (.int (i32 (nd)))) (st' := []) rfl rfl ?_
    obtain ⟨L713, eL713⟩ : ∃ q, q = jSto1 [(0, .ref 66), (1, .int (i32 (lv)))] 2 (.int (i32 (nd))) := ⟨_, rfl⟩
    rw [← eL713]
    have gL713_0 : jGet L713 0 = some (.ref 66) := eL713 ▸ jg_ne (by decide) (rfl : jGet [(0, .ref 66), (1, .int (i32 (lv)))] 0 = some (.ref 66)) rfl
    have gL713_1 : jGet L713 1 = some (.int (i32 (lv))) := eL713 ▸ jg_ne (by decide) (rfl : jGet [(0, .ref 66), (1, .int (i32 (lv)))] 1 = some (.int (i32 (lv)))) rfl
    have gL713_2 : jGet L713 2 = some (.int (i32 (nd))) := eL713 ▸ jg_eq
    refine jx_ld (pc' := 23) (l' := L713) (st' := [.ref 66]) rfl (jl_aloadn gL713_0) ?_
    refine jx_vr (pc' := 26) (as := []) (st := []) rfl rfl rfl rfl ⟨rfl, rfl, Nat.le_of_ble_eq_true rfl⟩ rfl rfl (c_endLine (dd := d) (hd := by omega) (hW := hW700)  (ln := ln) (e_ln := show G696 9 = ln from ((hF701.1 9 rfl).trans ((hF537.1 9 rfl).trans (e_ln)))) (li := li) (e_li := show G696 3 = li from ((hF701.1 3 rfl).trans ((hF537.1 3 rfl).trans (e_li)))) (fk := fk) (e_fk := show G696 16 = fk from ((hF701.1 16 rfl).trans ((hF537.1 16 rfl).trans (e_fk)))) (tk0 := tk2_535) (e_tk0 := show G696 11 = tk2_535 from ((hF701.1 11 rfl).trans (e539)))    (p_0 := by omega)) (fun o V' hq => ?_)
    obtain ⟨G714, A715, ln2_716, fk2_717, rfl, rfl, hW718, hF719, e720, e721, q722⟩ := hq
    have hF723 := Fr_tr hF709 hF719 (Fr_sub (by decide)) (Fr_sub (by decide))
    have hP724 := Pf_f hP710 hF719 (by decide)
    have hS725 := Fx_f hS711 hF719 (by decide)
    have hV726 := Fx_f hV712 hF719 (by decide)
    have sf727 : ND A715 (nd) (28) (0) (0) (0) (0) (0) (0) := ND_ag (by omega) (Ag_fr hF719 (by decide)) p707
    have ec728 : ecn A715 (G714 31) = ec2_699 := (ecn_f (hF719.2 15 rfl) (hF719.1 31 rfl)).trans e704
    have bln2_716 : (0 : Int) ≤ ln2_716 ∧ ln2_716 ≤ 3000 := e720 ▸ hW718.1 9
    have bfk2_717 : (0 : Int) ≤ fk2_717 ∧ fk2_717 ≤ 6 := e721 ▸ hW718.1 16
    refine .inl ⟨rfl, ?_⟩
    rcases q722 with ⟨a729, a730, a731, a732, a733⟩ | ⟨a734, a735⟩
    · have _q : True := trivial
      have b736 : (0 : Int) ≤ A 3 (ln2_716).toNat ∧ A 3 (ln2_716).toNat ≤ 3000 := hW.2 3 _
      have lt737 : ln2_716 < li → le < A 3 (ln2_716).toNat := fun hh => LT_nx (LT_ext (((hF719.1 3 rfl).trans ((hF701.1 3 rfl).trans (hF537.1 3 rfl)))) (((hF719.2 3 rfl).trans ((hF701.2 3 rfl).trans (hF537.2 3 rfl)))) (((hF719.2 4 rfl).trans ((hF701.2 4 rfl).trans (hF537.2 4 rfl)))) i_LT) (show G714 3 = li from ((hF719.1 3 rfl).trans ((hF701.1 3 rfl).trans ((hF537.1 3 rfl).trans (e_li))))) (show A715 4 (ln).toNat = le from (congrFun ((hF719.2 4 rfl).trans ((hF701.2 4 rfl).trans (hF537.2 4 rfl))) _).trans (e_le)) (show A715 3 (ln2_716).toNat = A 3 (ln2_716).toNat from (congrFun ((hF719.2 3 rfl).trans ((hF701.2 3 rfl).trans (hF537.2 3 rfl))) _)) (show ln2_716 = ln + 1 by omega) (by omega) hh
      refine jx_ld (pc' := 27) (l' := L713) (st' := [.ref 66]) rfl (jl_aloadn gL713_0) ?_
      refine jx_ld (pc' := 28) (l' := L713) (st' := [.int (i32 (nd)), .ref 66]) rfl (jl_iloadn gL713_2) ?_
      refine jx_ld (pc' := 29) (l' := L713) (st' := [.int (i32 (lv)), .int (i32 (nd)), .ref 66]) rfl (jl_iloadn gL713_1) ?_
      refine jx_ar (pc' := 30) (st' := [.int (i32 (2)), .int (i32 (lv)), .int (i32 (nd)), .ref 66]) rfl rfl rfl rfl ?_
      refine jx_ar (pc' := 32) (st' := [.int (i32 (8)), .int (i32 (2)), .int (i32 (lv)), .int (i32 (nd)), .ref 66]) rfl rfl rfl rfl ?_
      refine jx_vr (pc' := 35) (as := [.int (i32 (nd)), .int (i32 (lv)), .int (i32 (2)), .int (i32 (8))]) (st := []) rfl rfl rfl rfl ⟨rfl, rfl, Nat.le_of_ble_eq_true rfl⟩ rfl rfl (c_readChildren_w (dd := d) (hP := hP) (zz := nd) (hd := by omega) (hW := hW718) (n := nd) (lv := lv) (least := 2) (mo := 8) (kk := 28) (aa := 0) (bb := 0) (cc := 0) (de := 0) (xx := 0) (ln := ln2_716) (e_ln := show G714 9 = ln2_716 from (e720)) (li := li) (e_li := show G714 3 = li from ((hF719.1 3 rfl).trans ((hF701.1 3 rfl).trans ((hF537.1 3 rfl).trans (e_li))))) (at0 := at2_534) (e_at0 := show G714 10 = at2_534 from ((hF719.1 10 rfl).trans ((hF701.1 10 rfl).trans (e538)))) (fk := fk2_717) (e_fk := show G714 16 = fk2_717 from (e721)) (nd := nd2_698) (e_nd := show G714 31 = nd2_698 from ((hF719.1 31 rfl).trans (e703))) (sy := sy) (e_sy := show G714 19 = sy from ((hF719.1 19 rfl).trans ((hF701.1 19 rfl).trans ((hF537.1 19 rfl).trans (e_sy))))) (na := na) (e_na := show G714 28 = na from ((hF719.1 28 rfl).trans ((hF701.1 28 rfl).trans ((hF537.1 28 rfl).trans (e_na))))) (vi := vi) (e_vi := show G714 29 = vi from ((hF719.1 29 rfl).trans ((hF701.1 29 rfl).trans ((hF537.1 29 rfl).trans (e_vi))))) (lf := A 3 (ln2_716).toNat) (e_lf := show A715 3 (ln2_716).toNat = A 3 (ln2_716).toNat from (congrFun ((hF719.2 3 rfl).trans ((hF701.2 3 rfl).trans (hF537.2 3 rfl))) _)) (ec := ec2_699) (e_ec := show ecn A715 (G714 31) = ec2_699 from ec728) (i_LT := (LT_ext (((hF719.1 3 rfl).trans ((hF701.1 3 rfl).trans (hF537.1 3 rfl)))) (((hF719.2 3 rfl).trans ((hF701.2 3 rfl).trans (hF537.2 3 rfl)))) (((hF719.2 4 rfl).trans ((hF701.2 4 rfl).trans (hF537.2 4 rfl)))) i_LT)) (i_SV := (SV_fx i_SV e_vi (show G714 29 = vi from ((hF719.1 29 rfl).trans ((hF701.1 29 rfl).trans ((hF537.1 29 rfl).trans (e_vi))))) (by omega) hV726)) (i_PQ := (PQ_fx i_PQ hS725 (by omega) (hF723.2 29 rfl) (hF723.2 30 rfl))) (hvb := hvb) (h_n := ⟨(Int.le_trans (by decide : (-2147483648 : Int) ≤ 0) b_nd.1), (Int.le_trans b_nd.2 (by decide : (6999 : Int) ≤ 2147483647))⟩) (h_lv := ⟨(Int.le_trans (by decide : (-2147483648 : Int) ≤ -2147483648) h_lv.1), (Int.le_trans h_lv.2 (by decide : (2147483647 : Int) ≤ 2147483647))⟩) (h_least := ⟨(by decide), (by decide)⟩) (h_mo := ⟨(by decide), (by decide)⟩)  (p_0 := by omega) (p_1 := by omega) (p_2 := by omega) (p_3 := by omega) (p_4 := by omega) (p_5 := by omega) (p_6 := by omega) (p_7 := by omega) (p_8 := by omega) (p_9 := by omega) (p_10 := by omega) (p_11 := by omega) (p_12 := by omega) (p_13 := by omega) (p_14 := by omega) (p_15 := sf727)) (fun o V' hq => ?_)
      obtain ⟨G738, A739, ln2_740, at2_741, fk2_742, nd2_743, sy2_744, na2_745, vi2_746, lf2_747, mm_748, f2_749, ec2_750, rfl, rfl, hW751, hF752, hQ753, hQ754, hQ755, hQ756, e757, e758, e759, e760, e761, e762, e763, e764, e765, e766, e767, p768, p769, p770, p771, p772, p773, p774, q775⟩ := hq
      have hF776 := Fr_tr hF723 hF752 (Fr_sub (by decide)) (Fr_sub (by decide))
      have hP777 := Pf_tr hP724 hQ753 (by omega)
      have hS778 := Fx_tr hS725 hQ755 (by omega)
      have hV779 := Fx_tr hV726 hQ756 (by omega)
      have bln2_740 : (0 : Int) ≤ ln2_740 ∧ ln2_740 ≤ 3000 := e757 ▸ hW751.1 9
      have bat2_741 : (0 : Int) ≤ at2_741 ∧ at2_741 ≤ 3002 := e758 ▸ hW751.1 10
      have bfk2_742 : (0 : Int) ≤ fk2_742 ∧ fk2_742 ≤ 6 := e759 ▸ hW751.1 16
      have bnd2_743 : (0 : Int) ≤ nd2_743 ∧ nd2_743 ≤ 6999 := e760 ▸ hW751.1 31
      have bsy2_744 : (0 : Int) ≤ sy2_744 ∧ sy2_744 ≤ 202 := e761 ▸ hW751.1 19
      have bna2_745 : (0 : Int) ≤ na2_745 ∧ na2_745 ≤ 200 := e762 ▸ hW751.1 28
      have bvi2_746 : (0 : Int) ≤ vi2_746 ∧ vi2_746 ≤ 202 := e763 ▸ hW751.1 29
      have blf2_747 : (0 : Int) ≤ lf2_747 ∧ lf2_747 ≤ 3000 := e764 ▸ hW751.2 3 _
      have bmm_748 : (-2147483648 : Int) ≤ mm_748 ∧ mm_748 ≤ 2147483647 := e765 ▸ hW751.2 18 _
      have bf2_749 : (-2147483648 : Int) ≤ f2_749 ∧ f2_749 ≤ 2147483647 := e766 ▸ hW751.2 21 _
      refine .inl ⟨rfl, ?_⟩
      rcases q775 with ⟨a780, a781⟩ | ⟨a782, a783, a784, a785, a786, a787, a788, a789⟩
      · have _q : True := trivial
        refine jx_ld (pc' := 36) (l' := L713) (st' := [.int (i32 (nd))]) rfl (jl_iloadn gL713_2) ?_
        refine jx_rt (v := some (.int (i32 (nd)))) rfl rfl rfl rfl rfl rfl ?_
        exact ⟨_, _, _, ln2_740, at2_741, fk2_742, nd2_743, sy2_744, na2_745, vi2_746, lf2_747, ec2_750, rfl, rfl, hW751, hF776, hP777, hS778, hV779, by omega, (e757), (e758), (e759), (e760), (e761), (e762), (e763), (e764), e767, by omega, by omega, by omega, by omega, by omega, by omega, by omega, by omega, by omega, by omega, by first | exact Or.inl (⟨by omega, by omega⟩)⟩
      · have _q : True := trivial
        refine jx_ld (pc' := 36) (l' := L713) (st' := [.int (i32 (nd))]) rfl (jl_iloadn gL713_2) ?_
        refine jx_rt (v := some (.int (i32 (nd)))) rfl rfl rfl rfl rfl rfl ?_
        exact ⟨_, _, _, ln2_740, at2_741, fk2_742, nd2_743, sy2_744, na2_745, vi2_746, lf2_747, ec2_750, rfl, rfl, hW751, hF776, hP777, hS778, hV779, by omega, (e757), (e758), (e759), (e760), (e761), (e762), (e763), (e764), e767, by omega, by omega, by omega, by omega, by omega, by omega, by omega, by omega, by omega, by omega, by first | exact Or.inr ((⟨by omega, by omega, by omega, by omega, by omega, by omega, by omega, (wS_par a787 (RL_eq a788 (by omega) (by omega) (by omega) (by omega) (by omega)) (by omega) (by omega) (by omega)), (NX_nd a787), by omega⟩))⟩
    · have _q : True := trivial
      refine jx_ld (pc' := 27) (l' := L713) (st' := [.ref 66]) rfl (jl_aloadn gL713_0) ?_
      refine jx_ld (pc' := 28) (l' := L713) (st' := [.int (i32 (nd)), .ref 66]) rfl (jl_iloadn gL713_2) ?_
      refine jx_ld (pc' := 29) (l' := L713) (st' := [.int (i32 (lv)), .int (i32 (nd)), .ref 66]) rfl (jl_iloadn gL713_1) ?_
      refine jx_ar (pc' := 30) (st' := [.int (i32 (2)), .int (i32 (lv)), .int (i32 (nd)), .ref 66]) rfl rfl rfl rfl ?_
      refine jx_ar (pc' := 32) (st' := [.int (i32 (8)), .int (i32 (2)), .int (i32 (lv)), .int (i32 (nd)), .ref 66]) rfl rfl rfl rfl ?_
      refine jx_vr (pc' := 35) (as := [.int (i32 (nd)), .int (i32 (lv)), .int (i32 (2)), .int (i32 (8))]) (st := []) rfl rfl rfl rfl ⟨rfl, rfl, Nat.le_of_ble_eq_true rfl⟩ rfl rfl (c_readChildren_f (dd := d) (zz := nd) (hd := by omega) (hW := hW718) (n := nd) (lv := lv) (least := 2) (mo := 8) (fk := fk2_717) (e_fk := show G714 16 = fk2_717 from (e721))  (h_n := ⟨(Int.le_trans (by decide : (-2147483648 : Int) ≤ 0) b_nd.1), (Int.le_trans b_nd.2 (by decide : (6999 : Int) ≤ 2147483647))⟩) (h_lv := ⟨(Int.le_trans (by decide : (-2147483648 : Int) ≤ -2147483648) h_lv.1), (Int.le_trans h_lv.2 (by decide : (2147483647 : Int) ≤ 2147483647))⟩) (h_least := ⟨(by decide), (by decide)⟩) (h_mo := ⟨(by decide), (by decide)⟩)  (p_0 := by omega) (p_1 := by omega) (p_2 := by omega) (p_3 := by omega)) (fun o V' hq => ?_)
      obtain ⟨G790, A791, fk2_792, rfl, rfl, hW793, hF794, hQ795, e796, p797, -⟩ := hq
      have hF799 := Fr_tr hF723 hF794 (Fr_sub (by decide)) (Fr_sub (by decide))
      have hP800 := Pf_tr hP724 hQ795 (by omega)
      have hS801 := Fx_f hS725 hF794 (by decide)
      have hV802 := Fx_f hV726 hF794 (by decide)
      have ec803 : ecn A791 (G790 31) = ec2_699 := (ecn_f (hF794.2 15 rfl) (hF794.1 31 rfl)).trans ec728
      have bfk2_792 : (0 : Int) ≤ fk2_792 ∧ fk2_792 ≤ 6 := e796 ▸ hW793.1 16
      refine .inl ⟨rfl, ?_⟩
      refine jx_ld (pc' := 36) (l' := L713) (st' := [.int (i32 (nd))]) rfl (jl_iloadn gL713_2) ?_
      refine jx_rt (v := some (.int (i32 (nd)))) rfl rfl rfl rfl rfl rfl ?_
      exact ⟨_, _, _, ln2_716, at2_534, fk2_792, nd2_698, sy, na, vi, A 3 (ln2_716).toNat, ec2_699, rfl, rfl, hW793, hF799, hP800, hS801, hV802, by omega, ((hF794.1 9 rfl).trans (e720)), ((hF794.1 10 rfl).trans ((hF719.1 10 rfl).trans ((hF701.1 10 rfl).trans (e538)))), (e796), ((hF794.1 31 rfl).trans ((hF719.1 31 rfl).trans (e703))), ((hF794.1 19 rfl).trans ((hF719.1 19 rfl).trans ((hF701.1 19 rfl).trans ((hF537.1 19 rfl).trans (e_sy))))), ((hF794.1 28 rfl).trans ((hF719.1 28 rfl).trans ((hF701.1 28 rfl).trans ((hF537.1 28 rfl).trans (e_na))))), ((hF794.1 29 rfl).trans ((hF719.1 29 rfl).trans ((hF701.1 29 rfl).trans ((hF537.1 29 rfl).trans (e_vi))))), (congrFun ((hF794.2 3 rfl).trans ((hF719.2 3 rfl).trans ((hF701.2 3 rfl).trans (hF537.2 3 rfl)))) _), ec803, by omega, by omega, by omega, by omega, by omega, by omega, by omega, by omega, by omega, by omega, by first | exact Or.inl (⟨by omega, by omega⟩)⟩
