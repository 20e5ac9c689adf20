set_option maxRecDepth 20000 in
set_option maxHeartbeats 4000000 in
theorem c_readSeq_at_126p {X : jX} {k : Nat} (hP : RP X k) {d : Nat} {Vs : Nat → Prop} {sb pb : Int} (hvb : VB Vs sb) {c0 c1 : jC} {G : Nat → Int} {A : Nat → Nat → Int} {T : jH} {lv : Int} {ln li at0 fk nd sy na vi le op0 tk0 : Int} (hd : 8 * k + 82 ≤ d + 1) (hW : Wk G A) (e_ln : G 9 = ln) (e_li : G 3 = li) (e_at0 : G 10 = at0) (e_fk : G 16 = fk) (e_nd : G 31 = nd) (e_sy : G 19 = sy) (e_na : G 28 = na) (e_vi : G 29 = vi) (e_le : A 4 (ln).toNat = le) (e_op0 : G 15 = op0) (e_tk0 : G 11 = tk0) (i_LT : LT G A) (i_SV : SV Vs sb G A) (i_PQ : PQ Vs sb pb G A) (h_lv : (-2147483648 : Int) ≤ lv ∧ lv ≤ 2147483647) (p_0 : 0 ≤ lv ∧ lv ≤ 15) (p_1 : 18 - lv ≤ ((k + 1 : Nat) : Int)) (p_2 : fk = 0) (p_3 : ln < li) (p_4 : at0 ≤ le) (p_5 : op0 = 0) (p_6 : nd ≤ 2 * at0 - tz tk0 + 30) (p_7 : sy ≤ na + 2) (p_8 : vi ≤ sy) (p_9 : sb = sy) (p_10 : 1 ≤ tk0) : ∀ (L : jL) (Gx : Nat → Int) (Ax : Nat → Nat → Int) (n at1 tk1 fk1 nd1 op1 sy1 na1 : Int), jGet L 0 = some (.ref 66) → jGet L 1 = some (.int (i32 (lv))) → jGet L 2 = some (.int (i32 n)) → Wk Gx Ax → Fr [9, 10, 11, 12, 13, 14, 15, 16, 17, 18, 19, 28, 29, 31] [6, 7, 8, 9, 10, 11, 12, 14, 15, 16, 17, 18, 19, 20, 21, 22, 23, 24, 28] G A Gx Ax → Pf nd A Ax → Fx sr (sy) A Ax → Fx [14] (vi) A Ax → Gx 10 = at1 → Gx 11 = tk1 → Gx 16 = fk1 → Gx 31 = nd1 → Gx 15 = op1 → Gx 19 = sy1 → Gx 28 = na1 → Gx 9 = ln → Gx 29 = vi → ((-2147483648 : Int) ≤ n ∧ n ≤ 2147483647) → (1 ≤ fk1) → (at0 ≤ at1) → (at1 ≤ le) → (nd ≤ n ∧ n ≤ 6998 ∧ n < nd1) → (sy ≤ sy1) → (sy1 ≤ na1 + 2) → (0 ≤ op1 ∧ op1 ≤ 9) → (nd1 - nd ≤ 2 * at1 - 2 * at0 + 8) → wj X d jm297 (126, L, [], rV c0 c1 Gx Ax T) (fun o V' => ∃ (G' : Nat → Int) (A' : Nat → Nat → Int) (r : Int) (ln2 : Int) (at2 : Int) (fk2 : Int) (nd2 : Int) (sy2 : Int) (na2 : Int) (vi2 : Int) (lf2 : Int), V' = rV c0 c1 G' A' T ∧ o = .inl (some (.int (i32 r))) ∧ Wk G' A' ∧ Fr [9, 10, 11, 12, 13, 14, 15, 16, 17, 18, 19, 28, 29, 31] [6, 7, 8, 9, 10, 11, 12, 14, 15, 16, 17, 18, 19, 20, 21, 22, 23, 24, 28] G A G' A' ∧ Pf nd A A' ∧ Fx sr (sy) A A' ∧ Fx [14] (vi) A A' ∧ ((-2147483648 : Int) ≤ r ∧ r ≤ 2147483647) ∧ G' 9 = ln2 ∧ G' 10 = at2 ∧ G' 16 = fk2 ∧ G' 31 = nd2 ∧ G' 19 = sy2 ∧ G' 28 = na2 ∧ G' 29 = vi2 ∧ A' 3 (ln2).toNat = lf2 ∧ (at0 ≤ at2) ∧ (nd ≤ nd2) ∧ (sy ≤ sy2) ∧ (sy2 ≤ na2 + 2) ∧ (vi ≤ vi2) ∧ (vi2 ≤ vi + 1) ∧ (0 ≤ r) ∧ (r ≤ 6999) ∧ (ln ≤ ln2) ∧ (ln2 ≤ li) ∧ (((1 ≤ fk2) ∧ (nd2 - nd ≤ 2 * at2 - (2 * at0 - tz tk0) + 14)) ∨ ((fk2 = 0) ∧ (vi2 = vi) ∧ (ln < ln2) ∧ (nd2 - nd ≤ 2 * at2 - (2 * at0 - tz tk0)) ∧ (at2 < lf2 ∨ li ≤ ln2) ∧ (nd ≤ r) ∧ (r < nd2) ∧ (wSt A' (sy2) pb (wP A' (sy2) pb (k)) (Vs) (r) (nd) (nd2) (sy) (sy2)) ∧ (NX A' (r))))) := by
  have hF0 : Fr [9, 10, 11, 12, 13, 14, 15, 16, 17, 18, 19, 28, 29, 31] [6, 7, 8, 9, 10, 11, 12, 14, 15, 16, 17, 18, 19, 20, 21, 22, 23, 24, 28] G A G A := Fr_rf
  have hP0 : Pf nd A A := Pf_rf
  have hS0 : Fx sr (sy) A A := Fx_rf
  have hV0 : Fx [14] (vi) A A := Fx_rf
  have b_ln : (0 : Int) ≤ ln ∧ ln ≤ 3000 := e_ln ▸ hW.1 9
  have b_li : (0 : Int) ≤ li ∧ li ≤ 3000 := e_li ▸ hW.1 3
  have b_at0 : (0 : Int) ≤ at0 ∧ at0 ≤ 3002 := e_at0 ▸ hW.1 10
  have b_fk : (0 : Int) ≤ fk ∧ fk ≤ 6 := e_fk ▸ hW.1 16
  have b_nd : (0 : Int) ≤ nd ∧ nd ≤ 6999 := e_nd ▸ hW.1 31
  have b_sy : (0 : Int) ≤ sy ∧ sy ≤ 202 := e_sy ▸ hW.1 19
  have b_na : (0 : Int) ≤ na ∧ na ≤ 200 := e_na ▸ hW.1 28
  have b_vi : (0 : Int) ≤ vi ∧ vi ≤ 202 := e_vi ▸ hW.1 29
  have b_le : (0 : Int) ≤ le ∧ le ≤ 3000 := e_le ▸ hW.2 4 _
  have b_op0 : (-2147483648 : Int) ≤ op0 ∧ op0 ≤ 2147483647 := e_op0 ▸ hW.1 15
  have z_tk0 := tz_f tk0
  have b_tk0 : (0 : Int) ≤ tk0 ∧ tk0 ≤ 5 := e_tk0 ▸ hW.1 11
  intro L Gx Ax n at1 tk1 fk1 nd1 op1 sy1 na1 gL_0 gL_1 gL_2 hWx hFx hPx hSx hVx ex_at1 ex_tk1 ex_fk1 ex_nd1 ex_op1 ex_sy1 ex_na1 fx_9 fx_29 rx_n iv_0 iv_1 iv_2 iv_3 iv_4 iv_5 iv_6 iv_7
  have b_at1 : (0 : Int) ≤ at1 ∧ at1 ≤ 3002 := ex_at1 ▸ hWx.1 10
  have z_tk1 := tz_f tk1
  have b_tk1 : (0 : Int) ≤ tk1 ∧ tk1 ≤ 5 := ex_tk1 ▸ hWx.1 11
  have b_fk1 : (0 : Int) ≤ fk1 ∧ fk1 ≤ 6 := ex_fk1 ▸ hWx.1 16
  have b_nd1 : (0 : Int) ≤ nd1 ∧ nd1 ≤ 6999 := ex_nd1 ▸ hWx.1 31
  have b_op1 : (-2147483648 : Int) ≤ op1 ∧ op1 ≤ 2147483647 := ex_op1 ▸ hWx.1 15
  have b_sy1 : (0 : Int) ≤ sy1 ∧ sy1 ≤ 202 := ex_sy1 ▸ hWx.1 19
  have b_na1 : (0 : Int) ≤ na1 ∧ na1 ≤ 200 := ex_na1 ▸ hWx.1 28
  refine jx_ld (pc' := 127) (l' := L) (st' := [.ref 66]) rfl (jl_aloadn gL_0) ?_
  refine jx_vr (pc' := 130) (as := []) (st := []) rfl rfl rfl rfl ⟨rfl, rfl, Nat.le_of_ble_eq_true rfl⟩ rfl rfl (c_endLine (dd := d) (hd := by omega) (hW := hWx)  (ln := ln) (e_ln := show Gx 9 = ln from (fx_9)) (li := li) (e_li := show Gx 3 = li from ((hFx.1 3 rfl).trans (e_li))) (fk := fk1) (e_fk := show Gx 16 = fk1 from (ex_fk1)) (tk0 := tk1) (e_tk0 := show Gx 11 = tk1 from (ex_tk1))    (p_0 := by omega)) (fun o V' hq => ?_)
  obtain ⟨G1, A2, ln2_3, fk2_4, rfl, rfl, hW5, hF6, e7, e8, q9⟩ := hq
  have hF10 := Fr_tr hFx hF6 (Fr_sub (by decide)) (Fr_sub (by decide))
  have hP11 := Pf_f hPx hF6 (by decide)
  have hS12 := Fx_f hSx hF6 (by decide)
  have hV13 := Fx_f hVx hF6 (by decide)
  have bln2_3 : (0 : Int) ≤ ln2_3 ∧ ln2_3 ≤ 3000 := e7 ▸ hW5.1 9
  have bfk2_4 : (0 : Int) ≤ fk2_4 ∧ fk2_4 ≤ 6 := e8 ▸ hW5.1 16
  refine .inl ⟨rfl, ?_⟩
  rcases q9 with ⟨a14, a15, a16, a17, a18⟩ | ⟨a19, a20⟩
  · have _q : True := trivial
    exfalso
    omega
  · have _q : True := trivial
    refine jx_ld (pc' := 131) (l' := L) (st' := [.ref 66]) rfl (jl_aloadn gL_0) ?_
    refine jx_ld (pc' := 132) (l' := L) (st' := [.int (i32 (n)), .ref 66]) rfl (jl_iloadn gL_2) ?_
    refine jx_ld (pc' := 133) (l' := L) (st' := [.int (i32 (lv)), .int (i32 (n)), .ref 66]) rfl (jl_iloadn gL_1) ?_
    refine jx_vr (pc' := 136) (as := [.int (i32 (n)), .int (i32 (lv))]) (st := []) rfl rfl rfl rfl ⟨rfl, rfl, Nat.le_of_ble_eq_true rfl⟩ rfl rfl (c_readIndexed_f (dd := d) (hd := by omega) (hW := hW5) (n := n) (lv := lv) (fk := fk2_4) (e_fk := show G1 16 = fk2_4 from (e8))  (h_n := ⟨(Int.le_trans (by decide : (-2147483648 : Int) ≤ -2147483648) rx_n.1), (Int.le_trans rx_n.2 (by decide : (2147483647 : Int) ≤ 2147483647))⟩) (h_lv := ⟨(Int.le_trans (by decide : (-2147483648 : Int) ≤ -2147483648) h_lv.1), (Int.le_trans h_lv.2 (by decide : (2147483647 : Int) ≤ 2147483647))⟩)  (p_0 := by omega)) (fun o V' hq => ?_)
    obtain ⟨r21, rfl, rfl, b22, p23, -⟩ := hq
    refine .inr ⟨_, rfl, ?_⟩
    refine jx_rt (v := some (.int (i32 (r21)))) rfl rfl rfl rfl rfl rfl ?_
    exact ⟨_, _, _, ln2_3, at1, fk2_4, nd1, sy1, na1, vi, A 3 (ln2_3).toNat, rfl, rfl, hW5, hF10, hP11, hS12, hV13, by omega, (e7), ((hF6.1 10 rfl).trans (ex_at1)), (e8), ((hF6.1 31 rfl).trans (ex_nd1)), ((hF6.1 19 rfl).trans (ex_sy1)), ((hF6.1 28 rfl).trans (ex_na1)), ((hF6.1 29 rfl).trans (fx_29)), (congrFun ((hF6.2 3 rfl).trans (hFx.2 3 rfl)) _), by omega, by omega, by omega, by omega, by omega, by omega, by omega, by omega, by omega, by omega, by first | exact Or.inl (⟨by omega, by omega⟩)⟩
set_option maxRecDepth 20000 in
set_option maxHeartbeats 4000000 in
theorem c_readSeq_at_116p {X : jX} {k : Nat} (hP : RP X k) {d : Nat} {Vs : Nat → Prop} {sb pb : Int} (hvb : VB Vs sb) {c0 c1 : jC} {G : Nat → Int} {A : Nat → Nat → Int} {T : jH} {lv : Int} {ln li at0 fk nd sy na vi le op0 tk0 : Int} (hd : 8 * k + 82 ≤ d + 1) (hW : Wk G A) (e_ln : G 9 = ln) (e_li : G 3 = li) (e_at0 : G 10 = at0) (e_fk : G 16 = fk) (e_nd : G 31 = nd) (e_sy : G 19 = sy) (e_na : G 28 = na) (e_vi : G 29 = vi) (e_le : A 4 (ln).toNat = le) (e_op0 : G 15 = op0) (e_tk0 : G 11 = tk0) (i_LT : LT G A) (i_SV : SV Vs sb G A) (i_PQ : PQ Vs sb pb G A) (h_lv : (-2147483648 : Int) ≤ lv ∧ lv ≤ 2147483647) (p_0 : 0 ≤ lv ∧ lv ≤ 15) (p_1 : 18 - lv ≤ ((k + 1 : Nat) : Int)) (p_2 : fk = 0) (p_3 : ln < li) (p_4 : at0 ≤ le) (p_5 : op0 = 0) (p_6 : nd ≤ 2 * at0 - tz tk0 + 30) (p_7 : sy ≤ na + 2) (p_8 : vi ≤ sy) (p_9 : sb = sy) (p_10 : 1 ≤ tk0) : ∀ (L : jL) (Gx : Nat → Int) (Ax : Nat → Nat → Int) (n at1 tk1 fk1 nd1 op1 sy1 na1 : Int), jGet L 0 = some (.ref 66) → jGet L 1 = some (.int (i32 (lv))) → jGet L 2 = some (.int (i32 n)) → Wk Gx Ax → Fr [9, 10, 11, 12, 13, 14, 15, 16, 17, 18, 19, 28, 29, 31] [6, 7, 8, 9, 10, 11, 12, 14, 15, 16, 17, 18, 19, 20, 21, 22, 23, 24, 28] G A Gx Ax → Pf nd A Ax → Fx sr (sy) A Ax → Fx [14] (vi) A Ax → Gx 10 = at1 → Gx 11 = tk1 → Gx 16 = fk1 → Gx 31 = nd1 → Gx 15 = op1 → Gx 19 = sy1 → Gx 28 = na1 → Gx 9 = ln → Gx 29 = vi → ((-2147483648 : Int) ≤ n ∧ n ≤ 2147483647) → (1 ≤ fk1) → (at0 ≤ at1) → (at1 ≤ le) → (nd ≤ n ∧ n ≤ 6998 ∧ n < nd1) → (sy ≤ sy1) → (sy1 ≤ na1 + 2) → (0 ≤ op1 ∧ op1 ≤ 9) → (nd1 - nd ≤ 2 * at1 - 2 * at0 + 8) → wj X d jm297 (116, L, [], rV c0 c1 Gx Ax T) (fun o V' => ∃ (G' : Nat → Int) (A' : Nat → Nat → Int) (r : Int) (ln2 : Int) (at2 : Int) (fk2 : Int) (nd2 : Int) (sy2 : Int) (na2 : Int) (vi2 : Int) (lf2 : Int), V' = rV c0 c1 G' A' T ∧ o = .inl (some (.int (i32 r))) ∧ Wk G' A' ∧ Fr [9, 10, 11, 12, 13, 14, 15, 16, 17, 18, 19, 28, 29, 31] [6, 7, 8, 9, 10, 11, 12, 14, 15, 16, 17, 18, 19, 20, 21, 22, 23, 24, 28] G A G' A' ∧ Pf nd A A' ∧ Fx sr (sy) A A' ∧ Fx [14] (vi) A A' ∧ ((-2147483648 : Int) ≤ r ∧ r ≤ 2147483647) ∧ G' 9 = ln2 ∧ G' 10 = at2 ∧ G' 16 = fk2 ∧ G' 31 = nd2 ∧ G' 19 = sy2 ∧ G' 28 = na2 ∧ G' 29 = vi2 ∧ A' 3 (ln2).toNat = lf2 ∧ (at0 ≤ at2) ∧ (nd ≤ nd2) ∧ (sy ≤ sy2) ∧ (sy2 ≤ na2 + 2) ∧ (vi ≤ vi2) ∧ (vi2 ≤ vi + 1) ∧ (0 ≤ r) ∧ (r ≤ 6999) ∧ (ln ≤ ln2) ∧ (ln2 ≤ li) ∧ (((1 ≤ fk2) ∧ (nd2 - nd ≤ 2 * at2 - (2 * at0 - tz tk0) + 14)) ∨ ((fk2 = 0) ∧ (vi2 = vi) ∧ (ln < ln2) ∧ (nd2 - nd ≤ 2 * at2 - (2 * at0 - tz tk0)) ∧ (at2 < lf2 ∨ li ≤ ln2) ∧ (nd ≤ r) ∧ (r < nd2) ∧ (wSt A' (sy2) pb (wP A' (sy2) pb (k)) (Vs) (r) (nd) (nd2) (sy) (sy2)) ∧ (NX A' (r))))) := by
  have hF0 : Fr [9, 10, 11, 12, 13, 14, 15, 16, 17, 18, 19, 28, 29, 31] [6, 7, 8, 9, 10, 11, 12, 14, 15, 16, 17, 18, 19, 20, 21, 22, 23, 24, 28] G A G A := Fr_rf
  have hP0 : Pf nd A A := Pf_rf
  have hS0 : Fx sr (sy) A A := Fx_rf
  have hV0 : Fx [14] (vi) A A := Fx_rf
  have b_ln : (0 : Int) ≤ ln ∧ ln ≤ 3000 := e_ln ▸ hW.1 9
  have b_li : (0 : Int) ≤ li ∧ li ≤ 3000 := e_li ▸ hW.1 3
  have b_at0 : (0 : Int) ≤ at0 ∧ at0 ≤ 3002 := e_at0 ▸ hW.1 10
  have b_fk : (0 : Int) ≤ fk ∧ fk ≤ 6 := e_fk ▸ hW.1 16
  have b_nd : (0 : Int) ≤ nd ∧ nd ≤ 6999 := e_nd ▸ hW.1 31
  have b_sy : (0 : Int) ≤ sy ∧ sy ≤ 202 := e_sy ▸ hW.1 19
  have b_na : (0 : Int) ≤ na ∧ na ≤ 200 := e_na ▸ hW.1 28
  have b_vi : (0 : Int) ≤ vi ∧ vi ≤ 202 := e_vi ▸ hW.1 29
  have b_le : (0 : Int) ≤ le ∧ le ≤ 3000 := e_le ▸ hW.2 4 _
  have b_op0 : (-2147483648 : Int) ≤ op0 ∧ op0 ≤ 2147483647 := e_op0 ▸ hW.1 15
  have z_tk0 := tz_f tk0
  have b_tk0 : (0 : Int) ≤ tk0 ∧ tk0 ≤ 5 := e_tk0 ▸ hW.1 11
  intro L Gx Ax n at1 tk1 fk1 nd1 op1 sy1 na1 gL_0 gL_1 gL_2 hWx hFx hPx hSx hVx ex_at1 ex_tk1 ex_fk1 ex_nd1 ex_op1 ex_sy1 ex_na1 fx_9 fx_29 rx_n iv_0 iv_1 iv_2 iv_3 iv_4 iv_5 iv_6 iv_7
  have b_at1 : (0 : Int) ≤ at1 ∧ at1 ≤ 3002 := ex_at1 ▸ hWx.1 10
  have z_tk1 := tz_f tk1
  have b_tk1 : (0 : Int) ≤ tk1 ∧ tk1 ≤ 5 := ex_tk1 ▸ hWx.1 11
  have b_fk1 : (0 : Int) ≤ fk1 ∧ fk1 ≤ 6 := ex_fk1 ▸ hWx.1 16
  have b_nd1 : (0 : Int) ≤ nd1 ∧ nd1 ≤ 6999 := ex_nd1 ▸ hWx.1 31
  have b_op1 : (-2147483648 : Int) ≤ op1 ∧ op1 ≤ 2147483647 := ex_op1 ▸ hWx.1 15
  have b_sy1 : (0 : Int) ≤ sy1 ∧ sy1 ≤ 202 := ex_sy1 ▸ hWx.1 19
  have b_na1 : (0 : Int) ≤ na1 ∧ na1 ≤ 200 := ex_na1 ▸ hWx.1 28
  refine jx_ld (pc' := 117) (l' := L) (st' := [.ref 66]) rfl (jl_aloadn gL_0) ?_
  refine jr_get (pc' := 120) (i := 37) (v := .ref 87) rfl rfl (by decide) rfl rfl ?_
  refine jx_ld (pc' := 121) (l' := L) (st' := [.int (i32 (n)), .ref 87]) rfl (jl_iloadn gL_2) ?_
  refine jx_ld (pc' := 122) (l' := L) (st' := [.ref 66, .int (i32 (n)), .ref 87]) rfl (jl_aloadn gL_0) ?_
  refine jx_vr (pc' := 125) (as := []) (st := [.int (i32 (n)), .ref 87]) rfl rfl rfl rfl ⟨rfl, rfl, Nat.le_of_ble_eq_true rfl⟩ rfl rfl (RE_all X 9 (dd := d) (hd := by omega) (hW := hWx)  (ln := ln) (e_ln := show Gx 9 = ln from (fx_9)) (le := le) (e_le := show Ax 4 (ln).toNat = le from (congrFun (hFx.2 4 rfl) _).trans (e_le)) (at0 := at1) (e_at0 := show Gx 10 = at1 from (ex_at1)) (fk := fk1) (e_fk := show Gx 16 = fk1 from (ex_fk1)) (op0 := op1) (e_op0 := show Gx 15 = op1 from (ex_op1)) (nd := nd1) (e_nd := show Gx 31 = nd1 from (ex_nd1)) (tk0 := tk1) (e_tk0 := show Gx 11 = tk1 from (ex_tk1)) (i_SV := (SV_fx i_SV e_vi (show Gx 29 = vi from (fx_29)) (by omega) hVx))   (p_0 := by omega) (p_1 := by omega) (p_2 := by omega) (p_3 := by omega) (p_4 := by omega) (p_5 := by omega)) (fun o V' hq => ?_)
  obtain ⟨G25, A26, r27, at2_28, fk2_29, op2_30, nd2_31, tk2_32, rfl, rfl, hW33, hF34, hQ35, b36, e37, e38, e39, e40, e41, p42, p43, p44, p45, p46, p47, q48⟩ := hq
  have hF49 := Fr_tr hFx hF34 (Fr_sub (by decide)) (Fr_sub (by decide))
  have hP50 := Pf_tr hPx hQ35 (by omega)
  have hS51 := Fx_f hSx hF34 (by decide)
  have hV52 := Fx_f hVx hF34 (by decide)
  have bat2_28 : (0 : Int) ≤ at2_28 ∧ at2_28 ≤ 3002 := e37 ▸ hW33.1 10
  have bfk2_29 : (0 : Int) ≤ fk2_29 ∧ fk2_29 ≤ 6 := e38 ▸ hW33.1 16
  have bop2_30 : (-2147483648 : Int) ≤ op2_30 ∧ op2_30 ≤ 2147483647 := e39 ▸ hW33.1 15
  have bnd2_31 : (0 : Int) ≤ nd2_31 ∧ nd2_31 ≤ 6999 := e40 ▸ hW33.1 31
  have ztk2_32 := tz_b tk2_32
  have btk2_32 : (0 : Int) ≤ tk2_32 ∧ tk2_32 ≤ 5 := e41 ▸ hW33.1 11
  refine .inr ⟨_, rfl, ?_⟩
  rcases q48 with ⟨a53, a54, a55, a56, a57, a58⟩ | ⟨a59, a60, a61⟩ | ⟨a62, a63, a64, a65⟩
  · have _q : True := trivial
    refine jr_st (pc' := 126) (i := 20) (m := 7000) (z := n) (y := r27) rfl (by decide) rfl (by decide) (by omega) (by omega) rfl ?_
    have hW67 : Wk G25 (uA A26 20 (n).toNat (r27)) := Wk_a hW33 (show (-2147483648 : Int) ≤ r27 by omega) (show r27 ≤ (2147483647 : Int) by omega)
    have hF68 := Fr_a (z := r27) (k := 20) (n := (n).toNat) hF49 (by decide)
    obtain ⟨A66, eA66⟩ : ∃ q, q = uA A26 20 (n).toNat (r27) := ⟨_, rfl⟩
    rw [← eA66]
    rw [← eA66] at hW67 hF68
    have q69 : A66 20 (n).toNat = r27 := by rw [eA66]; exact uA_eq
    have hP70 : Pf nd A A66 := eA66 ▸ Pf_a hP50 (z := n) (by omega) (by omega)
    have hS71 : Fx sr (sy) A A66 := eA66 ▸ Fx_n hS51 rfl
    have hV72 : Fx [14] (vi) A A66 := eA66 ▸ Fx_n hV52 rfl
    have z73 := tz_f (tk2_32)
    exact c_readSeq_at_126p (X := X) (k := k) (hP := hP) (d := d) (Vs := Vs) (sb := sb) (pb := pb) (hvb := hvb) (c0 := c0) (c1 := c1) (G := G) (A := A) (T := T) (lv := lv) (ln := ln) (li := li) (at0 := at0) (fk := fk) (nd := nd) (sy := sy) (na := na) (vi := vi) (le := le) (op0 := op0) (tk0 := tk0) (hd := hd) (hW := hW) (e_ln := e_ln) (e_li := e_li) (e_at0 := e_at0) (e_fk := e_fk) (e_nd := e_nd) (e_sy := e_sy) (e_na := e_na) (e_vi := e_vi) (e_le := e_le) (e_op0 := e_op0) (e_tk0 := e_tk0) (i_LT := i_LT) (i_SV := i_SV) (i_PQ := i_PQ) (h_lv := h_lv) (p_0 := p_0) (p_1 := p_1) (p_2 := p_2) (p_3 := p_3) (p_4 := p_4) (p_5 := p_5) (p_6 := p_6) (p_7 := p_7) (p_8 := p_8) (p_9 := p_9) (p_10 := p_10) L G25 A66 (n) (at2_28) (tk2_32) (fk2_29) (nd2_31) (op2_30) (sy1) (na1) gL_0 gL_1 gL_2 hW67 hF68 hP70 hS71 hV72 ((e37)) ((e41)) ((e38)) ((e40)) ((e39)) (((hF34.1 19 rfl).trans (ex_sy1))) (((hF34.1 28 rfl).trans (ex_na1))) (((hF34.1 9 rfl).trans (fx_9))) (((hF34.1 29 rfl).trans (fx_29))) (by omega) (by omega) (by omega) (by omega) (by omega) (by omega) (by omega) (by omega) (by omega)
  · have _q : True := trivial
    exfalso
    omega
  · have _q : True := trivial
    exfalso
    omega
set_option maxRecDepth 20000 in
set_option maxHeartbeats 4000000 in
theorem c_readSeq_at_106p {X : jX} {k : Nat} (hP : RP X k) {d : Nat} {Vs : Nat → Prop} {sb pb : Int} (hvb : VB Vs sb) {c0 c1 : jC} {G : Nat → Int} {A : Nat → Nat → Int} {T : jH} {lv : Int} {ln li at0 fk nd sy na vi le op0 tk0 : Int} (hd : 8 * k + 82 ≤ d + 1) (hW : Wk G A) (e_ln : G 9 = ln) (e_li : G 3 = li) (e_at0 : G 10 = at0) (e_fk : G 16 = fk) (e_nd : G 31 = nd) (e_sy : G 19 = sy) (e_na : G 28 = na) (e_vi : G 29 = vi) (e_le : A 4 (ln).toNat = le) (e_op0 : G 15 = op0) (e_tk0 : G 11 = tk0) (i_LT : LT G A) (i_SV : SV Vs sb G A) (i_PQ : PQ Vs sb pb G A) (h_lv : (-2147483648 : Int) ≤ lv ∧ lv ≤ 2147483647) (p_0 : 0 ≤ lv ∧ lv ≤ 15) (p_1 : 18 - lv ≤ ((k + 1 : Nat) : Int)) (p_2 : fk = 0) (p_3 : ln < li) (p_4 : at0 ≤ le) (p_5 : op0 = 0) (p_6 : nd ≤ 2 * at0 - tz tk0 + 30) (p_7 : sy ≤ na + 2) (p_8 : vi ≤ sy) (p_9 : sb = sy) (p_10 : 1 ≤ tk0) : ∀ (L : jL) (Gx : Nat → Int) (Ax : Nat → Nat → Int) (n at1 tk1 fk1 nd1 op1 sy1 na1 : Int), jGet L 0 = some (.ref 66) → jGet L 1 = some (.int (i32 (lv))) → jGet L 2 = some (.int (i32 n)) → Wk Gx Ax → Fr [9, 10, 11, 12, 13, 14, 15, 16, 17, 18, 19, 28, 29, 31] [6, 7, 8, 9, 10, 11, 12, 14, 15, 16, 17, 18, 19, 20, 21, 22, 23, 24, 28] G A Gx Ax → Pf nd A Ax → Fx sr (sy) A Ax → Fx [14] (vi) A Ax → Gx 10 = at1 → Gx 11 = tk1 → Gx 16 = fk1 → Gx 31 = nd1 → Gx 15 = op1 → Gx 19 = sy1 → Gx 28 = na1 → Gx 9 = ln → Gx 29 = vi → ((-2147483648 : Int) ≤ n ∧ n ≤ 2147483647) → (1 ≤ fk1) → (at0 ≤ at1) → (at1 ≤ le) → (nd ≤ n ∧ n ≤ 6998 ∧ n < nd1) → (sy ≤ sy1) → (sy1 ≤ na1 + 2) → (0 ≤ op1 ∧ op1 ≤ 9) → (nd1 - nd ≤ 2 * at1 - 2 * at0 + 8) → wj X d jm297 (106, L, [], rV c0 c1 Gx Ax T) (fun o V' => ∃ (G' : Nat → Int) (A' : Nat → Nat → Int) (r : Int) (ln2 : Int) (at2 : Int) (fk2 : Int) (nd2 : Int) (sy2 : Int) (na2 : Int) (vi2 : Int) (lf2 : Int), V' = rV c0 c1 G' A' T ∧ o = .inl (some (.int (i32 r))) ∧ Wk G' A' ∧ Fr [9, 10, 11, 12, 13, 14, 15, 16, 17, 18, 19, 28, 29, 31] [6, 7, 8, 9, 10, 11, 12, 14, 15, 16, 17, 18, 19, 20, 21, 22, 23, 24, 28] G A G' A' ∧ Pf nd A A' ∧ Fx sr (sy) A A' ∧ Fx [14] (vi) A A' ∧ ((-2147483648 : Int) ≤ r ∧ r ≤ 2147483647) ∧ G' 9 = ln2 ∧ G' 10 = at2 ∧ G' 16 = fk2 ∧ G' 31 = nd2 ∧ G' 19 = sy2 ∧ G' 28 = na2 ∧ G' 29 = vi2 ∧ A' 3 (ln2).toNat = lf2 ∧ (at0 ≤ at2) ∧ (nd ≤ nd2) ∧ (sy ≤ sy2) ∧ (sy2 ≤ na2 + 2) ∧ (vi ≤ vi2) ∧ (vi2 ≤ vi + 1) ∧ (0 ≤ r) ∧ (r ≤ 6999) ∧ (ln ≤ ln2) ∧ (ln2 ≤ li) ∧ (((1 ≤ fk2) ∧ (nd2 - nd ≤ 2 * at2 - (2 * at0 - tz tk0) + 14)) ∨ ((fk2 = 0) ∧ (vi2 = vi) ∧ (ln < ln2) ∧ (nd2 - nd ≤ 2 * at2 - (2 * at0 - tz tk0)) ∧ (at2 < lf2 ∨ li ≤ ln2) ∧ (nd ≤ r) ∧ (r < nd2) ∧ (wSt A' (sy2) pb (wP A' (sy2) pb (k)) (Vs) (r) (nd) (nd2) (sy) (sy2)) ∧ (NX A' (r))))) := by
  have hF0 : Fr [9, 10, 11, 12, 13, 14, 15, 16, 17, 18, 19, 28, 29, 31] [6, 7, 8, 9, 10, 11, 12, 14, 15, 16, 17, 18, 19, 20, 21, 22, 23, 24, 28] G A G A := Fr_rf
  have hP0 : Pf nd A A := Pf_rf
  have hS0 : Fx sr (sy) A A := Fx_rf
  have hV0 : Fx [14] (vi) A A := Fx_rf
  have b_ln : (0 : Int) ≤ ln ∧ ln ≤ 3000 := e_ln ▸ hW.1 9
  have b_li : (0 : Int) ≤ li ∧ li ≤ 3000 := e_li ▸ hW.1 3
  have b_at0 : (0 : Int) ≤ at0 ∧ at0 ≤ 3002 := e_at0 ▸ hW.1 10
  have b_fk : (0 : Int) ≤ fk ∧ fk ≤ 6 := e_fk ▸ hW.1 16
  have b_nd : (0 : Int) ≤ nd ∧ nd ≤ 6999 := e_nd ▸ hW.1 31
  have b_sy : (0 : Int) ≤ sy ∧ sy ≤ 202 := e_sy ▸ hW.1 19
  have b_na : (0 : Int) ≤ na ∧ na ≤ 200 := e_na ▸ hW.1 28
  have b_vi : (0 : Int) ≤ vi ∧ vi ≤ 202 := e_vi ▸ hW.1 29
  have b_le : (0 : Int) ≤ le ∧ le ≤ 3000 := e_le ▸ hW.2 4 _
  have b_op0 : (-2147483648 : Int) ≤ op0 ∧ op0 ≤ 2147483647 := e_op0 ▸ hW.1 15
  have z_tk0 := tz_f tk0
  have b_tk0 : (0 : Int) ≤ tk0 ∧ tk0 ≤ 5 := e_tk0 ▸ hW.1 11
  intro L Gx Ax n at1 tk1 fk1 nd1 op1 sy1 na1 gL_0 gL_1 gL_2 hWx hFx hPx hSx hVx ex_at1 ex_tk1 ex_fk1 ex_nd1 ex_op1 ex_sy1 ex_na1 fx_9 fx_29 rx_n iv_0 iv_1 iv_2 iv_3 iv_4 iv_5 iv_6 iv_7
  have b_at1 : (0 : Int) ≤ at1 ∧ at1 ≤ 3002 := ex_at1 ▸ hWx.1 10
  have z_tk1 := tz_f tk1
  have b_tk1 : (0 : Int) ≤ tk1 ∧ tk1 ≤ 5 := ex_tk1 ▸ hWx.1 11
  have b_fk1 : (0 : Int) ≤ fk1 ∧ fk1 ≤ 6 := ex_fk1 ▸ hWx.1 16
  have b_nd1 : (0 : Int) ≤ nd1 ∧ nd1 ≤ 6999 := ex_nd1 ▸ hWx.1 31
  have b_op1 : (-2147483648 : Int) ≤ op1 ∧ op1 ≤ 2147483647 := ex_op1 ▸ hWx.1 15
  have b_sy1 : (0 : Int) ≤ sy1 ∧ sy1 ≤ 202 := ex_sy1 ▸ hWx.1 19
  have b_na1 : (0 : Int) ≤ na1 ∧ na1 ≤ 200 := ex_na1 ▸ hWx.1 28
  refine jx_ld (pc' := 107) (l' := L) (st' := [.ref 66]) rfl (jl_aloadn gL_0) ?_
  refine jx_ld (pc' := 108) (l' := L) (st' := [.ref 66, .ref 66]) rfl (jl_aloadn gL_0) ?_
  refine jx_ar (pc' := 110) (st' := [.int (i32 (13)), .ref 66, .ref 66]) rfl rfl rfl rfl ?_
  have b74 : (-2147483648 : Int) ≤ Gx 13 ∧ Gx 13 ≤ 2147483647 := hWx.1 13
  refine jx_vr (pc' := 113) (as := [.int (i32 (13))]) (st := [.ref 66]) rfl rfl rfl rfl ⟨rfl, rfl, Nat.le_of_ble_eq_true rfl⟩ rfl rfl (c_isKey (dd := d) (hd := by omega) (hW := hWx) (k := 13) (tk := tk1) (e_tk := show Gx 11 = tk1 from (ex_tk1)) (tn := Gx 13) (e_tn := show Gx 13 = Gx 13 from rfl)  (h_k := ⟨(by decide), (by decide)⟩)  ) (fun o V' hq => ?_)
  obtain ⟨r75, rfl, rfl, b76, q77⟩ := hq
  refine .inr ⟨_, rfl, ?_⟩
  rcases q77 with ⟨rfl, a78, a79, a80⟩ | rfl
  · have _q : True := trivial
    refine jx_vr (pc' := 116) (as := [.int (i32 (1))]) (st := []) rfl rfl rfl rfl ⟨rfl, rfl, Nat.le_of_ble_eq_true rfl⟩ rfl rfl (c_need (dd := d) (hd := by omega) (hW := hWx) (g := 1) (ln := ln) (e_ln := show Gx 9 = ln from (fx_9)) (le := le) (e_le := show Ax 4 (ln).toNat = le from (congrFun (hFx.2 4 rfl) _).trans (e_le)) (at0 := at1) (e_at0 := show Gx 10 = at1 from (ex_at1)) (fk := fk1) (e_fk := show Gx 16 = fk1 from (ex_fk1)) (tk0 := tk1) (e_tk0 := show Gx 11 = tk1 from (ex_tk1))  (h_g := ⟨(by decide), (by decide)⟩)  (p_0 := by omega)) (fun o V' hq => ?_)
    obtain ⟨G81, A82, at2_83, tk2_84, fk2_85, rfl, rfl, hW86, hF87, e88, e89, e90, p91, p92, q93⟩ := hq
    have hF94 := Fr_tr hFx hF87 (Fr_sub (by decide)) (Fr_sub (by decide))
    have hP95 := Pf_f hPx hF87 (by decide)
    have hS96 := Fx_f hSx hF87 (by decide)
    have hV97 := Fx_f hVx hF87 (by decide)
    have bat2_83 : (0 : Int) ≤ at2_83 ∧ at2_83 ≤ 3002 := e88 ▸ hW86.1 10
    have ztk2_84 := tz_b tk2_84
    have btk2_84 : (0 : Int) ≤ tk2_84 ∧ tk2_84 ≤ 5 := e89 ▸ hW86.1 11
    have bfk2_85 : (0 : Int) ≤ fk2_85 ∧ fk2_85 ≤ 6 := e90 ▸ hW86.1 16
    refine .inl ⟨rfl, ?_⟩
    rcases q93 with ⟨a98, a99, a100, a101⟩ | ⟨a102, a103, a104, a105⟩
    · have _q : True := trivial
      have z106 := tz_f (tk2_84)
      exact c_readSeq_at_116p (X := X) (k := k) (hP := hP) (d := d) (Vs := Vs) (sb := sb) (pb := pb) (hvb := hvb) (c0 := c0) (c1 := c1) (G := G) (A := A) (T := T) (lv := lv) (ln := ln) (li := li) (at0 := at0) (fk := fk) (nd := nd) (sy := sy) (na := na) (vi := vi) (le := le) (op0 := op0) (tk0 := tk0) (hd := hd) (hW := hW) (e_ln := e_ln) (e_li := e_li) (e_at0 := e_at0) (e_fk := e_fk) (e_nd := e_nd) (e_sy := e_sy) (e_na := e_na) (e_vi := e_vi) (e_le := e_le) (e_op0 := e_op0) (e_tk0 := e_tk0) (i_LT := i_LT) (i_SV := i_SV) (i_PQ := i_PQ) (h_lv := h_lv) (p_0 := p_0) (p_1 := p_1) (p_2 := p_2) (p_3 := p_3) (p_4 := p_4) (p_5 := p_5) (p_6 := p_6) (p_7 := p_7) (p_8 := p_8) (p_9 := p_9) (p_10 := p_10) L G81 A82 (n) (at2_83) (tk2_84) (fk2_85) (nd1) (op1) (sy1) (na1) gL_0 gL_1 gL_2 hW86 hF94 hP95 hS96 hV97 ((e88)) ((e89)) ((e90)) (((hF87.1 31 rfl).trans (ex_nd1))) (((hF87.1 15 rfl).trans (ex_op1))) (((hF87.1 19 rfl).trans (ex_sy1))) (((hF87.1 28 rfl).trans (ex_na1))) (((hF87.1 9 rfl).trans (fx_9))) (((hF87.1 29 rfl).trans (fx_29))) (by omega) (by omega) (by omega) (by omega) (by omega) (by omega) (by omega) (by omega) (by omega)
    · have _q : True := trivial
      exfalso
      omega
  · have _q : True := trivial
    refine jx_vr (pc' := 116) (as := [.int (i32 (0))]) (st := []) rfl rfl rfl rfl ⟨rfl, rfl, Nat.le_of_ble_eq_true rfl⟩ rfl rfl (c_need (dd := d) (hd := by omega) (hW := hWx) (g := 0) (ln := ln) (e_ln := show Gx 9 = ln from (fx_9)) (le := le) (e_le := show Ax 4 (ln).toNat = le from (congrFun (hFx.2 4 rfl) _).trans (e_le)) (at0 := at1) (e_at0 := show Gx 10 = at1 from (ex_at1)) (fk := fk1) (e_fk := show Gx 16 = fk1 from (ex_fk1)) (tk0 := tk1) (e_tk0 := show Gx 11 = tk1 from (ex_tk1))  (h_g := ⟨(by decide), (by decide)⟩)  (p_0 := by omega)) (fun o V' hq => ?_)
    obtain ⟨G107, A108, at2_109, tk2_110, fk2_111, rfl, rfl, hW112, hF113, e114, e115, e116, p117, p118, q119⟩ := hq
    have hF120 := Fr_tr hFx hF113 (Fr_sub (by decide)) (Fr_sub (by decide))
    have hP121 := Pf_f hPx hF113 (by decide)
    have hS122 := Fx_f hSx hF113 (by decide)
    have hV123 := Fx_f hVx hF113 (by decide)
    have bat2_109 : (0 : Int) ≤ at2_109 ∧ at2_109 ≤ 3002 := e114 ▸ hW112.1 10
    have ztk2_110 := tz_b tk2_110
    have btk2_110 : (0 : Int) ≤ tk2_110 ∧ tk2_110 ≤ 5 := e115 ▸ hW112.1 11
    have bfk2_111 : (0 : Int) ≤ fk2_111 ∧ fk2_111 ≤ 6 := e116 ▸ hW112.1 16
    refine .inl ⟨rfl, ?_⟩
    rcases q119 with ⟨a124, a125, a126, a127⟩ | ⟨a128, a129, a130, a131⟩
    · have _q : True := trivial
      have z132 := tz_f (tk2_110)
      exact c_readSeq_at_116p (X := X) (k := k) (hP := hP) (d := d) (Vs := Vs) (sb := sb) (pb := pb) (hvb := hvb) (c0 := c0) (c1 := c1) (G := G) (A := A) (T := T) (lv := lv) (ln := ln) (li := li) (at0 := at0) (fk := fk) (nd := nd) (sy := sy) (na := na) (vi := vi) (le := le) (op0 := op0) (tk0 := tk0) (hd := hd) (hW := hW) (e_ln := e_ln) (e_li := e_li) (e_at0 := e_at0) (e_fk := e_fk) (e_nd := e_nd) (e_sy := e_sy) (e_na := e_na) (e_vi := e_vi) (e_le := e_le) (e_op0 := e_op0) (e_tk0 := e_tk0) (i_LT := i_LT) (i_SV := i_SV) (i_PQ := i_PQ) (h_lv := h_lv) (p_0 := p_0) (p_1 := p_1) (p_2 := p_2) (p_3 := p_3) (p_4 := p_4) (p_5 := p_5) (p_6 := p_6) (p_7 := p_7) (p_8 := p_8) (p_9 := p_9) (p_10 := p_10) L G107 A108 (n) (at2_109) (tk2_110) (fk2_111) (nd1) (op1) (sy1) (na1) gL_0 gL_1 gL_2 hW112 hF120 hP121 hS122 hV123 ((e114)) ((e115)) ((e116)) (((hF113.1 31 rfl).trans (ex_nd1))) (((hF113.1 15 rfl).trans (ex_op1))) (((hF113.1 19 rfl).trans (ex_sy1))) (((hF113.1 28 rfl).trans (ex_na1))) (((hF113.1 9 rfl).trans (fx_9))) (((hF113.1 29 rfl).trans (fx_29))) (by omega) (by omega) (by omega) (by omega) (by omega) (by omega) (by omega) (by omega) (by omega)
    · have _q : True := trivial
      exfalso
      omega
set_option maxRecDepth 20000 in
set_option maxHeartbeats 4000000 in
theorem c_readSeq_at_106 {X : jX} {k : Nat} (hP : RP X k) {d : Nat} {Vs : Nat → Prop} {sb pb : Int} (hvb : VB Vs sb) {c0 c1 : jC} {G : Nat → Int} {A : Nat → Nat → Int} {T : jH} {lv : Int} {ln li at0 fk nd sy na vi le op0 tk0 : Int} (hd : 8 * k + 82 ≤ d + 1) (hW : Wk G A) (e_ln : G 9 = ln) (e_li : G 3 = li) (e_at0 : G 10 = at0) (e_fk : G 16 = fk) (e_nd : G 31 = nd) (e_sy : G 19 = sy) (e_na : G 28 = na) (e_vi : G 29 = vi) (e_le : A 4 (ln).toNat = le) (e_op0 : G 15 = op0) (e_tk0 : G 11 = tk0) (i_LT : LT G A) (i_SV : SV Vs sb G A) (i_PQ : PQ Vs sb pb G A) (h_lv : (-2147483648 : Int) ≤ lv ∧ lv ≤ 2147483647) (p_0 : 0 ≤ lv ∧ lv ≤ 15) (p_1 : 18 - lv ≤ ((k + 1 : Nat) : Int)) (p_2 : fk = 0) (p_3 : ln < li) (p_4 : at0 ≤ le) (p_5 : op0 = 0) (p_6 : nd ≤ 2 * at0 - tz tk0 + 30) (p_7 : sy ≤ na + 2) (p_8 : vi ≤ sy) (p_9 : sb = sy) (p_10 : 1 ≤ tk0) : ∀ (L : jL) (Gx : Nat → Int) (Ax : Nat → Nat → Int) (n at1 tk1 fk1 nd1 op1 sy1 na1 sa1 ka1 ec : Int), jGet L 0 = some (.ref 66) → jGet L 1 = some (.int (i32 (lv))) → jGet L 2 = some (.int (i32 n)) → Wk Gx Ax → Fr [9, 10, 11, 12, 13, 14, 15, 16, 17, 18, 19, 28, 29, 31] [6, 7, 8, 9, 10, 11, 12, 14, 15, 16, 17, 18, 19, 20, 21, 22, 23, 24, 28] G A Gx Ax → Pf nd A Ax → Fx sr (sy) A Ax → Fx [14] (vi) A Ax → Gx 10 = at1 → Gx 11 = tk1 → Gx 16 = fk1 → Gx 31 = nd1 → Gx 15 = op1 → Gx 19 = sy1 → Gx 28 = na1 → Ax 17 (n).toNat = sa1 → Ax 7 (sa1).toNat = ka1 → Ax 19 (n).toNat = ec → Gx 9 = ln → Gx 29 = vi → ((-2147483648 : Int) ≤ n ∧ n ≤ 2147483647) → (fk1 = 0) → (at0 ≤ at1) → (at1 ≤ le) → (n = nd) → (n ≤ 6998 ∧ n < nd1) → (sy1 = sy + 1) → (sa1 = sy) → (sy1 ≤ na1 + 2) → (op1 = 0) → (nd1 - nd ≤ (2 * at1 - tz tk1) - (2 * at0 - tz tk0)) → (ka1 = 9) → (ND Ax (n) (27) (sa1) (0) (ec) (0) (0) (0)) → (wE Ax Vs sb (20) (ec) (n + 1) (nd1)) → wj X d jm297 (106, L, [], rV c0 c1 Gx Ax T) (fun o V' => ∃ (G' : Nat → Int) (A' : Nat → Nat → Int) (r : Int) (ln2 : Int) (at2 : Int) (fk2 : Int) (nd2 : Int) (sy2 : Int) (na2 : Int) (vi2 : Int) (lf2 : Int), V' = rV c0 c1 G' A' T ∧ o = .inl (some (.int (i32 r))) ∧ Wk G' A' ∧ Fr [9, 10, 11, 12, 13, 14, 15, 16, 17, 18, 19, 28, 29, 31] [6, 7, 8, 9, 10, 11, 12, 14, 15, 16, 17, 18, 19, 20, 21, 22, 23, 24, 28] G A G' A' ∧ Pf nd A A' ∧ Fx sr (sy) A A' ∧ Fx [14] (vi) A A' ∧ ((-2147483648 : Int) ≤ r ∧ r ≤ 2147483647) ∧ G' 9 = ln2 ∧ G' 10 = at2 ∧ G' 16 = fk2 ∧ G' 31 = nd2 ∧ G' 19 = sy2 ∧ G' 28 = na2 ∧ G' 29 = vi2 ∧ A' 3 (ln2).toNat = lf2 ∧ (at0 ≤ at2) ∧ (nd ≤ nd2) ∧ (sy ≤ sy2) ∧ (sy2 ≤ na2 + 2) ∧ (vi ≤ vi2) ∧ (vi2 ≤ vi + 1) ∧ (0 ≤ r) ∧ (r ≤ 6999) ∧ (ln ≤ ln2) ∧ (ln2 ≤ li) ∧ (((1 ≤ fk2) ∧ (nd2 - nd ≤ 2 * at2 - (2 * at0 - tz tk0) + 14)) ∨ ((fk2 = 0) ∧ (vi2 = vi) ∧ (ln < ln2) ∧ (nd2 - nd ≤ 2 * at2 - (2 * at0 - tz tk0)) ∧ (at2 < lf2 ∨ li ≤ ln2) ∧ (nd ≤ r) ∧ (r < nd2) ∧ (wSt A' (sy2) pb (wP A' (sy2) pb (k)) (Vs) (r) (nd) (nd2) (sy) (sy2)) ∧ (NX A' (r))))) := by
  have hF0 : Fr [9, 10, 11, 12, 13, 14, 15, 16, 17, 18, 19, 28, 29, 31] [6, 7, 8, 9, 10, 11, 12, 14, 15, 16, 17, 18, 19, 20, 21, 22, 23, 24, 28] G A G A := Fr_rf
  have hP0 : Pf nd A A := Pf_rf
  have hS0 : Fx sr (sy) A A := Fx_rf
  have hV0 : Fx [14] (vi) A A := Fx_rf
  have b_ln : (0 : Int) ≤ ln ∧ ln ≤ 3000 := e_ln ▸ hW.1 9
  have b_li : (0 : Int) ≤ li ∧ li ≤ 3000 := e_li ▸ hW.1 3
  have b_at0 : (0 : Int) ≤ at0 ∧ at0 ≤ 3002 := e_at0 ▸ hW.1 10
  have b_fk : (0 : Int) ≤ fk ∧ fk ≤ 6 := e_fk ▸ hW.1 16
  have b_nd : (0 : Int) ≤ nd ∧ nd ≤ 6999 := e_nd ▸ hW.1 31
  have b_sy : (0 : Int) ≤ sy ∧ sy ≤ 202 := e_sy ▸ hW.1 19
  have b_na : (0 : Int) ≤ na ∧ na ≤ 200 := e_na ▸ hW.1 28
  have b_vi : (0 : Int) ≤ vi ∧ vi ≤ 202 := e_vi ▸ hW.1 29
  have b_le : (0 : Int) ≤ le ∧ le ≤ 3000 := e_le ▸ hW.2 4 _
  have b_op0 : (-2147483648 : Int) ≤ op0 ∧ op0 ≤ 2147483647 := e_op0 ▸ hW.1 15
  have z_tk0 := tz_f tk0
  have b_tk0 : (0 : Int) ≤ tk0 ∧ tk0 ≤ 5 := e_tk0 ▸ hW.1 11
  intro L Gx Ax n at1 tk1 fk1 nd1 op1 sy1 na1 sa1 ka1 ec gL_0 gL_1 gL_2 hWx hFx hPx hSx hVx ex_at1 ex_tk1 ex_fk1 ex_nd1 ex_op1 ex_sy1 ex_na1 ex_sa1 ex_ka1 ex_ec fx_9 fx_29 rx_n iv_0 iv_1 iv_2 iv_3 iv_4 iv_5 iv_6 iv_7 iv_8 iv_9 iv_10 iv_11 iv_12
  have b_at1 : (0 : Int) ≤ at1 ∧ at1 ≤ 3002 := ex_at1 ▸ hWx.1 10
  have z_tk1 := tz_f tk1
  have b_tk1 : (0 : Int) ≤ tk1 ∧ tk1 ≤ 5 := ex_tk1 ▸ hWx.1 11
  have b_fk1 : (0 : Int) ≤ fk1 ∧ fk1 ≤ 6 := ex_fk1 ▸ hWx.1 16
  have b_nd1 : (0 : Int) ≤ nd1 ∧ nd1 ≤ 6999 := ex_nd1 ▸ hWx.1 31
  have b_op1 : (-2147483648 : Int) ≤ op1 ∧ op1 ≤ 2147483647 := ex_op1 ▸ hWx.1 15
  have b_sy1 : (0 : Int) ≤ sy1 ∧ sy1 ≤ 202 := ex_sy1 ▸ hWx.1 19
  have b_na1 : (0 : Int) ≤ na1 ∧ na1 ≤ 200 := ex_na1 ▸ hWx.1 28
  refine jx_ld (pc' := 107) (l' := L) (st' := [.ref 66]) rfl (jl_aloadn gL_0) ?_
  refine jx_ld (pc' := 108) (l' := L) (st' := [.ref 66, .ref 66]) rfl (jl_aloadn gL_0) ?_
  refine jx_ar (pc' := 110) (st' := [.int (i32 (13)), .ref 66, .ref 66]) rfl rfl rfl rfl ?_
  have b133 : (-2147483648 : Int) ≤ Gx 13 ∧ Gx 13 ≤ 2147483647 := hWx.1 13
  refine jx_vr (pc' := 113) (as := [.int (i32 (13))]) (st := [.ref 66]) rfl rfl rfl rfl ⟨rfl, rfl, Nat.le_of_ble_eq_true rfl⟩ rfl rfl (c_isKey (dd := d) (hd := by omega) (hW := hWx) (k := 13) (tk := tk1) (e_tk := show Gx 11 = tk1 from (ex_tk1)) (tn := Gx 13) (e_tn := show Gx 13 = Gx 13 from rfl)  (h_k := ⟨(by decide), (by decide)⟩)  ) (fun o V' hq => ?_)
  obtain ⟨r134, rfl, rfl, b135, q136⟩ := hq
  refine .inr ⟨_, rfl, ?_⟩
  rcases q136 with ⟨rfl, a137, a138, a139⟩ | rfl
  · have _q : True := trivial
    refine jx_vr (pc' := 116) (as := [.int (i32 (1))]) (st := []) rfl rfl rfl rfl ⟨rfl, rfl, Nat.le_of_ble_eq_true rfl⟩ rfl rfl (c_need (dd := d) (hd := by omega) (hW := hWx) (g := 1) (ln := ln) (e_ln := show Gx 9 = ln from (fx_9)) (le := le) (e_le := show Ax 4 (ln).toNat = le from (congrFun (hFx.2 4 rfl) _).trans (e_le)) (at0 := at1) (e_at0 := show Gx 10 = at1 from (ex_at1)) (fk := fk1) (e_fk := show Gx 16 = fk1 from (ex_fk1)) (tk0 := tk1) (e_tk0 := show Gx 11 = tk1 from (ex_tk1))  (h_g := ⟨(by decide), (by decide)⟩)  (p_0 := by omega)) (fun o V' hq => ?_)
    obtain ⟨G140, A141, at2_142, tk2_143, fk2_144, rfl, rfl, hW145, hF146, e147, e148, e149, p150, p151, q152⟩ := hq
    have hF153 := Fr_tr hFx hF146 (Fr_sub (by decide)) (Fr_sub (by decide))
    have hP154 := Pf_f hPx hF146 (by decide)
    have hS155 := Fx_f hSx hF146 (by decide)
    have hV156 := Fx_f hVx hF146 (by decide)
    have sf157 : ND A141 (n) (27) (sa1) (0) (ec) (0) (0) (0) := ND_ag (by omega) (Ag_fr hF146 (by decide)) iv_11
    have sf158 : wE A141 Vs sb (20) (ec) (n + 1) (nd1) := wE_ag (by omega) (Sg_fr hF146 (by decide)) (Ag_fr hF146 (by decide)) iv_12
    have bat2_142 : (0 : Int) ≤ at2_142 ∧ at2_142 ≤ 3002 := e147 ▸ hW145.1 10
    have ztk2_143 := tz_b tk2_143
    have btk2_143 : (0 : Int) ≤ tk2_143 ∧ tk2_143 ≤ 5 := e148 ▸ hW145.1 11
    have bfk2_144 : (0 : Int) ≤ fk2_144 ∧ fk2_144 ≤ 6 := e149 ▸ hW145.1 16
    refine .inl ⟨rfl, ?_⟩
    rcases q152 with ⟨a159, a160, a161, a162⟩ | ⟨a163, a164, a165, a166⟩
    · have _q : True := trivial
      have z167 := tz_f (tk2_143)
      exact c_readSeq_at_116p (X := X) (k := k) (hP := hP) (d := d) (Vs := Vs) (sb := sb) (pb := pb) (hvb := hvb) (c0 := c0) (c1 := c1) (G := G) (A := A) (T := T) (lv := lv) (ln := ln) (li := li) (at0 := at0) (fk := fk) (nd := nd) (sy := sy) (na := na) (vi := vi) (le := le) (op0 := op0) (tk0 := tk0) (hd := hd) (hW := hW) (e_ln := e_ln) (e_li := e_li) (e_at0 := e_at0) (e_fk := e_fk) (e_nd := e_nd) (e_sy := e_sy) (e_na := e_na) (e_vi := e_vi) (e_le := e_le) (e_op0 := e_op0) (e_tk0 := e_tk0) (i_LT := i_LT) (i_SV := i_SV) (i_PQ := i_PQ) (h_lv := h_lv) (p_0 := p_0) (p_1 := p_1) (p_2 := p_2) (p_3 := p_3) (p_4 := p_4) (p_5 := p_5) (p_6 := p_6) (p_7 := p_7) (p_8 := p_8) (p_9 := p_9) (p_10 := p_10) L G140 A141 (n) (at2_142) (tk2_143) (fk2_144) (nd1) (op1) (sy1) (na1) gL_0 gL_1 gL_2 hW145 hF153 hP154 hS155 hV156 ((e147)) ((e148)) ((e149)) (((hF146.1 31 rfl).trans (ex_nd1))) (((hF146.1 15 rfl).trans (ex_op1))) (((hF146.1 19 rfl).trans (ex_sy1))) (((hF146.1 28 rfl).trans (ex_na1))) (((hF146.1 9 rfl).trans (fx_9))) (((hF146.1 29 rfl).trans (fx_29))) (by omega) (by omega) (by omega) (by omega) (by omega) (by omega) (by omega) (by omega) (by omega)
    · have _q : True := trivial
      refine jx_ld (pc' := 117) (l' := L) (st' := [.ref 66]) rfl (jl_aloadn gL_0) ?_
      refine jr_get (pc' := 120) (i := 37) (v := .ref 87) rfl rfl (by decide) rfl rfl ?_
      refine jx_ld (pc' := 121) (l' := L) (st' := [.int (i32 (n)), .ref 87]) rfl (jl_iloadn gL_2) ?_
      refine jx_ld (pc' := 122) (l' := L) (st' := [.ref 66, .int (i32 (n)), .ref 87]) rfl (jl_aloadn gL_0) ?_
      refine jx_vr (pc' := 125) (as := []) (st := [.int (i32 (n)), .ref 87]) rfl rfl rfl rfl ⟨rfl, rfl, Nat.le_of_ble_eq_true rfl⟩ rfl rfl (RE_all X 9 (dd := d) (hd := by omega) (hW := hW145)  (ln := ln) (e_ln := show G140 9 = ln from ((hF146.1 9 rfl).trans (fx_9))) (le := le) (e_le := show A141 4 (ln).toNat = le from (congrFun ((hF146.2 4 rfl).trans (hFx.2 4 rfl)) _).trans (e_le)) (at0 := at2_142) (e_at0 := show G140 10 = at2_142 from (e147)) (fk := fk2_144) (e_fk := show G140 16 = fk2_144 from (e149)) (op0 := op1) (e_op0 := show G140 15 = op1 from ((hF146.1 15 rfl).trans (ex_op1))) (nd := nd1) (e_nd := show G140 31 = nd1 from ((hF146.1 31 rfl).trans (ex_nd1))) (tk0 := tk2_143) (e_tk0 := show G140 11 = tk2_143 from (e148)) (i_SV := (SV_fx i_SV e_vi (show G140 29 = vi from ((hF146.1 29 rfl).trans (fx_29))) (by omega) hV156))   (p_0 := by omega) (p_1 := by omega) (p_2 := by omega) (p_3 := by omega) (p_4 := by omega) (p_5 := by omega)) (fun o V' hq => ?_)
      obtain ⟨G168, A169, r170, at2_171, fk2_172, op2_173, nd2_174, tk2_175, rfl, rfl, hW176, hF177, hQ178, b179, e180, e181, e182, e183, e184, p185, p186, p187, p188, p189, p190, q191⟩ := hq
      have hF192 := Fr_tr hF153 hF177 (Fr_sub (by decide)) (Fr_sub (by decide))
      have k193 : A169 17 (n).toNat = sa1 := (hQ178 17 _ rfl (by omega)).trans (show A141 17 (n).toNat = sa1 from (congrFun (hF146.2 17 rfl) _).trans (ex_sa1))
      have k194 : A169 19 (n).toNat = ec := (hQ178 19 _ rfl (by omega)).trans (show A141 19 (n).toNat = ec from (congrFun (hF146.2 19 rfl) _).trans (ex_ec))
      have hP195 := Pf_tr hP154 hQ178 (by omega)
      have hS196 := Fx_f hS155 hF177 (by decide)
      have hV197 := Fx_f hV156 hF177 (by decide)
      have sf198 : ND A169 (n) (27) (sa1) (0) (ec) (0) (0) (0) := ND_ag (by omega) (Ag_pf hQ178 (by omega)) sf157
      have sf199 : wE A169 Vs sb (20) (ec) (n + 1) (nd1) := wE_ag (by omega) (Sg_fr hF177 (by decide)) (Ag_pf hQ178 (by omega)) sf158
      have bat2_171 : (0 : Int) ≤ at2_171 ∧ at2_171 ≤ 3002 := e180 ▸ hW176.1 10
      have bfk2_172 : (0 : Int) ≤ fk2_172 ∧ fk2_172 ≤ 6 := e181 ▸ hW176.1 16
      have bop2_173 : (-2147483648 : Int) ≤ op2_173 ∧ op2_173 ≤ 2147483647 := e182 ▸ hW176.1 15
      have bnd2_174 : (0 : Int) ≤ nd2_174 ∧ nd2_174 ≤ 6999 := e183 ▸ hW176.1 31
      have ztk2_175 := tz_b tk2_175
      have btk2_175 : (0 : Int) ≤ tk2_175 ∧ tk2_175 ≤ 5 := e184 ▸ hW176.1 11
      refine .inr ⟨_, rfl, ?_⟩
      rcases q191 with ⟨a200, a201, a202, a203, a204, a205⟩ | ⟨a206, a207, a208⟩ | ⟨a209, a210, a211, a212⟩
      · have _q : True := trivial
        exfalso
        omega
      · have _q : True := trivial
        refine jr_st (pc' := 126) (i := 20) (m := 7000) (z := n) (y := r170) rfl (by decide) rfl (by decide) (by omega) (by omega) rfl ?_
        have hW214 : Wk G168 (uA A169 20 (n).toNat (r170)) := Wk_a hW176 (show (-2147483648 : Int) ≤ r170 by omega) (show r170 ≤ (2147483647 : Int) by omega)
        have hF215 := Fr_a (z := r170) (k := 20) (n := (n).toNat) hF192 (by decide)
        obtain ⟨A213, eA213⟩ : ∃ q, q = uA A169 20 (n).toNat (r170) := ⟨_, rfl⟩
        rw [← eA213]
        rw [← eA213] at hW214 hF215
        have q216 : A213 20 (n).toNat = r170 := by rw [eA213]; exact uA_eq
        have hP217 : Pf nd A A213 := eA213 ▸ Pf_a hP195 (z := n) (by omega) (by omega)
        have hS218 : Fx sr (sy) A A213 := eA213 ▸ Fx_n hS196 rfl
        have hV219 : Fx [14] (vi) A A213 := eA213 ▸ Fx_n hV197 rfl
        have sf220 : ND A213 (n) (27) (sa1) (0) (ec) (r170) (0) (0) := ND_d eA213 sf198
        have sf221 : wE A213 Vs sb (20) (ec) (n + 1) (nd1) := wE_ag (by omega) (Sg_ne eA213 rfl) (Ag_st eA213 (by omega) (by omega)) sf199
        have z222 := tz_f (tk2_175)
        exact c_readSeq_at_126p (X := X) (k := k) (hP := hP) (d := d) (Vs := Vs) (sb := sb) (pb := pb) (hvb := hvb) (c0 := c0) (c1 := c1) (G := G) (A := A) (T := T) (lv := lv) (ln := ln) (li := li) (at0 := at0) (fk := fk) (nd := nd) (sy := sy) (na := na) (vi := vi) (le := le) (op0 := op0) (tk0 := tk0) (hd := hd) (hW := hW) (e_ln := e_ln) (e_li := e_li) (e_at0 := e_at0) (e_fk := e_fk) (e_nd := e_nd) (e_sy := e_sy) (e_na := e_na) (e_vi := e_vi) (e_le := e_le) (e_op0 := e_op0) (e_tk0 := e_tk0) (i_LT := i_LT) (i_SV := i_SV) (i_PQ := i_PQ) (h_lv := h_lv) (p_0 := p_0) (p_1 := p_1) (p_2 := p_2) (p_3 := p_3) (p_4 := p_4) (p_5 := p_5) (p_6 := p_6) (p_7 := p_7) (p_8 := p_8) (p_9 := p_9) (p_10 := p_10) L G168 A213 (n) (at2_171) (tk2_175) (fk2_172) (nd2_174) (op2_173) (sy1) (na1) gL_0 gL_1 gL_2 hW214 hF215 hP217 hS218 hV219 ((e180)) ((e184)) ((e181)) ((e183)) ((e182)) (((hF177.1 19 rfl).trans ((hF146.1 19 rfl).trans (ex_sy1)))) (((hF177.1 28 rfl).trans ((hF146.1 28 rfl).trans (ex_na1)))) (((hF177.1 9 rfl).trans ((hF146.1 9 rfl).trans (fx_9)))) (((hF177.1 29 rfl).trans ((hF146.1 29 rfl).trans (fx_29)))) (by omega) (by omega) (by omega) (by omega) (by omega) (by omega) (by omega) (by omega) (by omega)
      · have _q : True := trivial
        refine jr_st (pc' := 126) (i := 20) (m := 7000) (z := n) (y := r170) rfl (by decide) rfl (by decide) (by omega) (by omega) rfl ?_
        have hW224 : Wk G168 (uA A169 20 (n).toNat (r170)) := Wk_a hW176 (show (-2147483648 : Int) ≤ r170 by omega) (show r170 ≤ (2147483647 : Int) by omega)
        have hF225 := Fr_a (z := r170) (k := 20) (n := (n).toNat) hF192 (by decide)
        obtain ⟨A223, eA223⟩ : ∃ q, q = uA A169 20 (n).toNat (r170) := ⟨_, rfl⟩
        rw [← eA223]
        rw [← eA223] at hW224 hF225
        have q226 : A223 20 (n).toNat = r170 := by rw [eA223]; exact uA_eq
        have hP227 : Pf nd A A223 := eA223 ▸ Pf_a hP195 (z := n) (by omega) (by omega)
        have hS228 : Fx sr (sy) A A223 := eA223 ▸ Fx_n hS196 rfl
        have hV229 : Fx [14] (vi) A A223 := eA223 ▸ Fx_n hV197 rfl
        have sf230 : ND A223 (n) (27) (sa1) (0) (ec) (r170) (0) (0) := ND_d eA223 sf198
        have sf231 : wE A223 Vs sb (20) (ec) (n + 1) (nd1) := wE_ag (by omega) (Sg_ne eA223 rfl) (Ag_st eA223 (by omega) (by omega)) sf199
        have sf232 : wE A223 Vs sb (2 * 9 + 2) (r170) (nd1) (nd2_174) := wE_ag (by omega) (Sg_ne eA223 rfl) (Ag_st eA223 (by omega) (by omega)) a212
        refine jx_ld (pc' := 127) (l' := L) (st' := [.ref 66]) rfl (jl_aloadn gL_0) ?_
        refine jx_vr (pc' := 130) (as := []) (st := []) rfl rfl rfl rfl ⟨rfl, rfl, Nat.le_of_ble_eq_true rfl⟩ rfl rfl (c_endLine (dd := d) (hd := by omega) (hW := hW224)  (ln := ln) (e_ln := show G168 9 = ln from ((hF177.1 9 rfl).trans ((hF146.1 9 rfl).trans (fx_9)))) (li := li) (e_li := show G168 3 = li from ((hF177.1 3 rfl).trans ((hF146.1 3 rfl).trans ((hFx.1 3 rfl).trans (e_li))))) (fk := fk2_172) (e_fk := show G168 16 = fk2_172 from (e181)) (tk0 := tk2_175) (e_tk0 := show G168 11 = tk2_175 from (e184))    (p_0 := by omega)) (fun o V' hq => ?_)
        obtain ⟨G233, A234, ln2_235, fk2_236, rfl, rfl, hW237, hF238, e239, e240, q241⟩ := hq
        have hF242 := Fr_tr hF225 hF238 (Fr_sub (by decide)) (Fr_sub (by decide))
        have hP243 := Pf_f hP227 hF238 (by decide)
        have hS244 := Fx_f hS228 hF238 (by decide)
        have hV245 := Fx_f hV229 hF238 (by decide)
        have sf246 : ND A234 (n) (27) (sa1) (0) (ec) (r170) (0) (0) := ND_ag (by omega) (Ag_fr hF238 (by decide)) sf230
        have sf247 : wE A234 Vs sb (20) (ec) (n + 1) (nd1) := wE_ag (by omega) (Sg_fr hF238 (by decide)) (Ag_fr hF238 (by decide)) sf231
        have sf248 : wE A234 Vs sb (2 * 9 + 2) (r170) (nd1) (nd2_174) := wE_ag (by omega) (Sg_fr hF238 (by decide)) (Ag_fr hF238 (by decide)) sf232
        have bln2_235 : (0 : Int) ≤ ln2_235 ∧ ln2_235 ≤ 3000 := e239 ▸ hW237.1 9
        have bfk2_236 : (0 : Int) ≤ fk2_236 ∧ fk2_236 ≤ 6 := e240 ▸ hW237.1 16
        refine .inl ⟨rfl, ?_⟩
        rcases q241 with ⟨a249, a250, a251, a252, a253⟩ | ⟨a254, a255⟩
        · have _q : True := trivial
          have b256 : (0 : Int) ≤ A 3 (ln2_235).toNat ∧ A 3 (ln2_235).toNat ≤ 3000 := hW.2 3 _
          have lt257 : ln2_235 < li → le < A 3 (ln2_235).toNat := fun hh => LT_nx (LT_ext (((hF238.1 3 rfl).trans ((hF177.1 3 rfl).trans ((hF146.1 3 rfl).trans (hFx.1 3 rfl))))) (((hF238.2 3 rfl).trans (((congrFun eA223 3).trans (uA_ne (by decide))).trans ((hF177.2 3 rfl).trans ((hF146.2 3 rfl).trans (hFx.2 3 rfl)))))) (((hF238.2 4 rfl).trans (((congrFun eA223 4).trans (uA_ne (by decide))).trans ((hF177.2 4 rfl).trans ((hF146.2 4 rfl).trans (hFx.2 4 rfl)))))) i_LT) (show G233 3 = li from ((hF238.1 3 rfl).trans ((hF177.1 3 rfl).trans ((hF146.1 3 rfl).trans ((hFx.1 3 rfl).trans (e_li)))))) (show A234 4 (ln).toNat = le from (congrFun ((hF238.2 4 rfl).trans (((congrFun eA223 4).trans (uA_ne (by decide))).trans ((hF177.2 4 rfl).trans ((hF146.2 4 rfl).trans (hFx.2 4 rfl))))) _).trans (e_le)) (show A234 3 (ln2_235).toNat = A 3 (ln2_235).toNat from (congrFun ((hF238.2 3 rfl).trans (((congrFun eA223 3).trans (uA_ne (by decide))).trans ((hF177.2 3 rfl).trans ((hF146.2 3 rfl).trans (hFx.2 3 rfl))))) _)) (show ln2_235 = ln + 1 by omega) (by omega) hh
          refine jx_ld (pc' := 131) (l' := L) (st' := [.ref 66]) rfl (jl_aloadn gL_0) ?_
          refine jx_ld (pc' := 132) (l' := L) (st' := [.int (i32 (n)), .ref 66]) rfl (jl_iloadn gL_2) ?_
          refine jx_ld (pc' := 133) (l' := L) (st' := [.int (i32 (lv)), .int (i32 (n)), .ref 66]) rfl (jl_iloadn gL_1) ?_
          refine jx_vr (pc' := 136) (as := [.int (i32 (n)), .int (i32 (lv))]) (st := []) rfl rfl rfl rfl ⟨rfl, rfl, Nat.le_of_ble_eq_true rfl⟩ rfl rfl (c_readIndexed (dd := d) (hP := hP) (zz := nd) (hd := by omega) (hW := hW237) (n := n) (lv := lv) (kk := 27) (bb := 0) (cc := ec) (de := r170) (xx := 0) (ln := ln2_235) (e_ln := show G233 9 = ln2_235 from (e239)) (li := li) (e_li := show G233 3 = li from ((hF238.1 3 rfl).trans ((hF177.1 3 rfl).trans ((hF146.1 3 rfl).trans ((hFx.1 3 rfl).trans (e_li)))))) (at0 := at2_171) (e_at0 := show G233 10 = at2_171 from ((hF238.1 10 rfl).trans (e180))) (fk := fk2_236) (e_fk := show G233 16 = fk2_236 from (e240)) (nd := nd2_174) (e_nd := show G233 31 = nd2_174 from ((hF238.1 31 rfl).trans (e183))) (sy := sy1) (e_sy := show G233 19 = sy1 from ((hF238.1 19 rfl).trans ((hF177.1 19 rfl).trans ((hF146.1 19 rfl).trans (ex_sy1))))) (na := na1) (e_na := show G233 28 = na1 from ((hF238.1 28 rfl).trans ((hF177.1 28 rfl).trans ((hF146.1 28 rfl).trans (ex_na1))))) (vi := vi) (e_vi := show G233 29 = vi from ((hF238.1 29 rfl).trans ((hF177.1 29 rfl).trans ((hF146.1 29 rfl).trans (fx_29))))) (lf := A 3 (ln2_235).toNat) (e_lf := show A234 3 (ln2_235).toNat = A 3 (ln2_235).toNat from (congrFun ((hF238.2 3 rfl).trans (((congrFun eA223 3).trans (uA_ne (by decide))).trans ((hF177.2 3 rfl).trans ((hF146.2 3 rfl).trans (hFx.2 3 rfl))))) _)) (sa := sa1) (e_sa := show A234 17 (n).toNat = sa1 from (congrFun ((hF238.2 17 rfl).trans ((congrFun eA223 17).trans (uA_ne (by decide)))) _).trans (k193)) (ksa := ka1) (e_ksa := show A234 7 (sa1).toNat = ka1 from (congrFun ((hF238.2 7 rfl).trans (((congrFun eA223 7).trans (uA_ne (by decide))).trans ((hF177.2 7 rfl).trans (hF146.2 7 rfl)))) _).trans (ex_ka1)) (i_LT := (LT_ext (((hF238.1 3 rfl).trans ((hF177.1 3 rfl).trans ((hF146.1 3 rfl).trans (hFx.1 3 rfl))))) (((hF238.2 3 rfl).trans (((congrFun eA223 3).trans (uA_ne (by decide))).trans ((hF177.2 3 rfl).trans ((hF146.2 3 rfl).trans (hFx.2 3 rfl)))))) (((hF238.2 4 rfl).trans (((congrFun eA223 4).trans (uA_ne (by decide))).trans ((hF177.2 4 rfl).trans ((hF146.2 4 rfl).trans (hFx.2 4 rfl)))))) i_LT)) (i_SV := (SV_fx i_SV e_vi (show G233 29 = vi from ((hF238.1 29 rfl).trans ((hF177.1 29 rfl).trans ((hF146.1 29 rfl).trans (fx_29))))) (by omega) hV245)) (i_PQ := (PQ_fx i_PQ hS244 (by omega) (hF242.2 29 rfl) (hF242.2 30 rfl))) (hvb := hvb) (h_n := ⟨(Int.le_trans (by decide : (-2147483648 : Int) ≤ -2147483648) rx_n.1), (Int.le_trans rx_n.2 (by decide : (2147483647 : Int) ≤ 2147483647))⟩) (h_lv := ⟨(Int.le_trans (by decide : (-2147483648 : Int) ≤ -2147483648) h_lv.1), (Int.le_trans h_lv.2 (by decide : (2147483647 : Int) ≤ 2147483647))⟩)  (p_0 := by omega) (p_1 := by omega) (p_2 := by omega) (p_3 := by omega) (p_4 := by omega) (p_5 := by omega) (p_6 := by omega) (p_7 := by omega) (p_8 := by omega) (p_9 := by omega) (p_10 := by omega) (p_11 := by omega) (p_12 := by omega) (p_13 := by omega) (p_14 := by omega) (p_15 := by omega) (p_16 := sf246)) (fun o V' hq => ?_)
          obtain ⟨G258, A259, ln2_260, at2_261, fk2_262, nd2_263, sy2_264, na2_265, vi2_266, lf2_267, f2_268, rfl, rfl, hW269, hF270, hQ271, hQ272, hQ273, hQ274, e275, e276, e277, e278, e279, e280, e281, e282, e283, p284, p285, p286, p287, p288, p289, p290, q291⟩ := hq
          have hF292 := Fr_tr hF242 hF270 (Fr_sub (by decide)) (Fr_sub (by decide))
          have hP293 := Pf_tr hP243 hQ271 (by omega)
          have hS294 := Fx_tr hS244 hQ273 (by omega)
          have hV295 := Fx_tr hV245 hQ274 (by omega)
          have k296 : A259 7 (sa1).toNat = ka1 := (hQ273 7 _ rfl (by omega)).trans (show A234 7 (sa1).toNat = ka1 from (congrFun ((hF238.2 7 rfl).trans (((congrFun eA223 7).trans (uA_ne (by decide))).trans ((hF177.2 7 rfl).trans (hF146.2 7 rfl)))) _).trans (ex_ka1))
          have sf297 : wE A259 Vs sb (20) (ec) (n + 1) (nd1) := wE_ag (by omega) (Fx_su hQ273 (by omega)) (Ag_px hQ272 (by omega) (by omega)) sf247
          have sf298 : wE A259 Vs sb (2 * 9 + 2) (r170) (nd1) (nd2_174) := wE_ag (by omega) (Fx_su hQ273 (by omega)) (Ag_px hQ272 (by omega) (by omega)) sf248
          have bln2_260 : (0 : Int) ≤ ln2_260 ∧ ln2_260 ≤ 3000 := e275 ▸ hW269.1 9
          have bat2_261 : (0 : Int) ≤ at2_261 ∧ at2_261 ≤ 3002 := e276 ▸ hW269.1 10
          have bfk2_262 : (0 : Int) ≤ fk2_262 ∧ fk2_262 ≤ 6 := e277 ▸ hW269.1 16
          have bnd2_263 : (0 : Int) ≤ nd2_263 ∧ nd2_263 ≤ 6999 := e278 ▸ hW269.1 31
          have bsy2_264 : (0 : Int) ≤ sy2_264 ∧ sy2_264 ≤ 202 := e279 ▸ hW269.1 19
          have bna2_265 : (0 : Int) ≤ na2_265 ∧ na2_265 ≤ 200 := e280 ▸ hW269.1 28
          have bvi2_266 : (0 : Int) ≤ vi2_266 ∧ vi2_266 ≤ 202 := e281 ▸ hW269.1 29
          have blf2_267 : (0 : Int) ≤ lf2_267 ∧ lf2_267 ≤ 3000 := e282 ▸ hW269.2 3 _
          have bf2_268 : (-2147483648 : Int) ≤ f2_268 ∧ f2_268 ≤ 2147483647 := e283 ▸ hW269.2 21 _
          refine .inr ⟨_, rfl, ?_⟩
          rcases q291 with ⟨a299, a300⟩ | ⟨a301, a302, a303, a304, a305, a306⟩
          · have _q : True := trivial
            refine jx_rt (v := some (.int (i32 (n)))) rfl rfl rfl rfl rfl rfl ?_
            exact ⟨_, _, _, ln2_260, at2_261, fk2_262, nd2_263, sy2_264, na2_265, vi2_266, lf2_267, rfl, rfl, hW269, hF292, hP293, hS294, hV295, by omega, (e275), (e276), (e277), (e278), (e279), (e280), (e281), (e282), by omega, by omega, by omega, by omega, by omega, by omega, by omega, by omega, by omega, by omega, by first | exact Or.inl (⟨by omega, by omega⟩)⟩
          · have _q : True := trivial
            refine jx_rt (v := some (.int (i32 (n)))) rfl rfl rfl rfl rfl rfl ?_
            exact ⟨_, _, _, ln2_260, at2_261, fk2_262, nd2_263, sy2_264, na2_265, vi2_266, lf2_267, rfl, rfl, hW269, hF292, hP293, hS294, hV295, by omega, (e275), (e276), (e277), (e278), (e279), (e280), (e281), (e282), by omega, by omega, by omega, by omega, by omega, by omega, by omega, by omega, by omega, by omega, by first | exact Or.inr ((⟨by omega, by omega, by omega, by omega, by omega, by omega, by omega, (wS_for (u := nd1) (v := nd2_174) (ND_ae a305 (by omega : sa1 = sy)) (by omega) (by rw [← (by omega : sa1 = sy)]; exact (show A259 7 (sa1).toNat = ka1 from (k296)).trans (by omega)) (by omega) (by omega) (by omega) (wE_sb (by omega) (wE_mono (by omega) (by omega) (by omega) sf297)) (wE_sb (by omega) (wE_mono (by omega) (by omega) (by omega) sf298)) (wP_vu (by omega : sa1 = sy) (wP_eq a306 (by omega) rfl (by omega) (by omega) (by omega) (by omega) (by omega) (by omega)))), (NX_nd a305)⟩))⟩
        · have _q : True := trivial
          refine jx_ld (pc' := 131) (l' := L) (st' := [.ref 66]) rfl (jl_aloadn gL_0) ?_
          refine jx_ld (pc' := 132) (l' := L) (st' := [.int (i32 (n)), .ref 66]) rfl (jl_iloadn gL_2) ?_
          refine jx_ld (pc' := 133) (l' := L) (st' := [.int (i32 (lv)), .int (i32 (n)), .ref 66]) rfl (jl_iloadn gL_1) ?_
          refine jx_vr (pc' := 136) (as := [.int (i32 (n)), .int (i32 (lv))]) (st := []) rfl rfl rfl rfl ⟨rfl, rfl, Nat.le_of_ble_eq_true rfl⟩ rfl rfl (c_readIndexed_f (dd := d) (hd := by omega) (hW := hW237) (n := n) (lv := lv) (fk := fk2_236) (e_fk := show G233 16 = fk2_236 from (e240))  (h_n := ⟨(Int.le_trans (by decide : (-2147483648 : Int) ≤ -2147483648) rx_n.1), (Int.le_trans rx_n.2 (by decide : (2147483647 : Int) ≤ 2147483647))⟩) (h_lv := ⟨(Int.le_trans (by decide : (-2147483648 : Int) ≤ -2147483648) h_lv.1), (Int.le_trans h_lv.2 (by decide : (2147483647 : Int) ≤ 2147483647))⟩)  (p_0 := by omega)) (fun o V' hq => ?_)
          obtain ⟨r307, rfl, rfl, b308, p309, -⟩ := hq
          refine .inr ⟨_, rfl, ?_⟩
          refine jx_rt (v := some (.int (i32 (r307)))) rfl rfl rfl rfl rfl rfl ?_
          exact ⟨_, _, _, ln2_235, at2_171, fk2_236, nd2_174, sy1, na1, vi, A 3 (ln2_235).toNat, rfl, rfl, hW237, hF242, hP243, hS244, hV245, by omega, (e239), ((hF238.1 10 rfl).trans (e180)), (e240), ((hF238.1 31 rfl).trans (e183)), ((hF238.1 19 rfl).trans ((hF177.1 19 rfl).trans ((hF146.1 19 rfl).trans (ex_sy1)))), ((hF238.1 28 rfl).trans ((hF177.1 28 rfl).trans ((hF146.1 28 rfl).trans (ex_na1)))), ((hF238.1 29 rfl).trans ((hF177.1 29 rfl).trans ((hF146.1 29 rfl).trans (fx_29)))), (congrFun ((hF238.2 3 rfl).trans (((congrFun eA223 3).trans (uA_ne (by decide))).trans ((hF177.2 3 rfl).trans ((hF146.2 3 rfl).trans (hFx.2 3 rfl))))) _), by omega, by omega, by omega, by omega, by omega, by omega, by omega, by omega, by omega, by omega, by first | exact Or.inl (⟨by omega, by omega⟩)⟩
  · have _q : True := trivial
    refine jx_vr (pc' := 116) (as := [.int (i32 (0))]) (st := []) rfl rfl rfl rfl ⟨rfl, rfl, Nat.le_of_ble_eq_true rfl⟩ rfl rfl (c_need (dd := d) (hd := by omega) (hW := hWx) (g := 0) (ln := ln) (e_ln := show Gx 9 = ln from (fx_9)) (le := le) (e_le := show Ax 4 (ln).toNat = le from (congrFun (hFx.2 4 rfl) _).trans (e_le)) (at0 := at1) (e_at0 := show Gx 10 = at1 from (ex_at1)) (fk := fk1) (e_fk := show Gx 16 = fk1 from (ex_fk1)) (tk0 := tk1) (e_tk0 := show Gx 11 = tk1 from (ex_tk1))  (h_g := ⟨(by decide), (by decide)⟩)  (p_0 := by omega)) (fun o V' hq => ?_)
    obtain ⟨G311, A312, at2_313, tk2_314, fk2_315, rfl, rfl, hW316, hF317, e318, e319, e320, p321, p322, q323⟩ := hq
    have hF324 := Fr_tr hFx hF317 (Fr_sub (by decide)) (Fr_sub (by decide))
    have hP325 := Pf_f hPx hF317 (by decide)
    have hS326 := Fx_f hSx hF317 (by decide)
    have hV327 := Fx_f hVx hF317 (by decide)
    have sf328 : ND A312 (n) (27) (sa1) (0) (ec) (0) (0) (0) := ND_ag (by omega) (Ag_fr hF317 (by decide)) iv_11
    have sf329 : wE A312 Vs sb (20) (ec) (n + 1) (nd1) := wE_ag (by omega) (Sg_fr hF317 (by decide)) (Ag_fr hF317 (by decide)) iv_12
    have bat2_313 : (0 : Int) ≤ at2_313 ∧ at2_313 ≤ 3002 := e318 ▸ hW316.1 10
    have ztk2_314 := tz_b tk2_314
    have btk2_314 : (0 : Int) ≤ tk2_314 ∧ tk2_314 ≤ 5 := e319 ▸ hW316.1 11
    have bfk2_315 : (0 : Int) ≤ fk2_315 ∧ fk2_315 ≤ 6 := e320 ▸ hW316.1 16
    refine .inl ⟨rfl, ?_⟩
    rcases q323 with ⟨a330, a331, a332, a333⟩ | ⟨a334, a335, a336, a337⟩
    · have _q : True := trivial
      have z338 := tz_f (tk2_314)
      exact c_readSeq_at_116p (X := X) (k := k) (hP := hP) (d := d) (Vs := Vs) (sb := sb) (pb := pb) (hvb := hvb) (c0 := c0) (c1 := c1) (G := G) (A := A) (T := T) (lv := lv) (ln := ln) (li := li) (at0 := at0) (fk := fk) (nd := nd) (sy := sy) (na := na) (vi := vi) (le := le) (op0 := op0) (tk0 := tk0) (hd := hd) (hW := hW) (e_ln := e_ln) (e_li := e_li) (e_at0 := e_at0) (e_fk := e_fk) (e_nd := e_nd) (e_sy := e_sy) (e_na := e_na) (e_vi := e_vi) (e_le := e_le) (e_op0 := e_op0) (e_tk0 := e_tk0) (i_LT := i_LT) (i_SV := i_SV) (i_PQ := i_PQ) (h_lv := h_lv) (p_0 := p_0) (p_1 := p_1) (p_2 := p_2) (p_3 := p_3) (p_4 := p_4) (p_5 := p_5) (p_6 := p_6) (p_7 := p_7) (p_8 := p_8) (p_9 := p_9) (p_10 := p_10) L G311 A312 (n) (at2_313) (tk2_314) (fk2_315) (nd1) (op1) (sy1) (na1) gL_0 gL_1 gL_2 hW316 hF324 hP325 hS326 hV327 ((e318)) ((e319)) ((e320)) (((hF317.1 31 rfl).trans (ex_nd1))) (((hF317.1 15 rfl).trans (ex_op1))) (((hF317.1 19 rfl).trans (ex_sy1))) (((hF317.1 28 rfl).trans (ex_na1))) (((hF317.1 9 rfl).trans (fx_9))) (((hF317.1 29 rfl).trans (fx_29))) (by omega) (by omega) (by omega) (by omega) (by omega) (by omega) (by omega) (by omega) (by omega)
    · have _q : True := trivial
      exfalso
      omega
set_option maxRecDepth 20000 in
set_option maxHeartbeats 4000000 in
theorem c_readSeq_at_96p {X : jX} {k : Nat} (hP : RP X k) {d : Nat} {Vs : Nat → Prop} {sb pb : Int} (hvb : VB Vs sb) {c0 c1 : jC} {G : Nat → Int} {A : Nat → Nat → Int} {T : jH} {lv : Int} {ln li at0 fk nd sy na vi le op0 tk0 : Int} (hd : 8 * k + 82 ≤ d + 1) (hW : Wk G A) (e_ln : G 9 = ln) (e_li : G 3 = li) (e_at0 : G 10 = at0) (e_fk : G 16 = fk) (e_nd : G 31 = nd) (e_sy : G 19 = sy) (e_na : G 28 = na) (e_vi : G 29 = vi) (e_le : A 4 (ln).toNat = le) (e_op0 : G 15 = op0) (e_tk0 : G 11 = tk0) (i_LT : LT G A) (i_SV : SV Vs sb G A) (i_PQ : PQ Vs sb pb G A) (h_lv : (-2147483648 : Int) ≤ lv ∧ lv ≤ 2147483647) (p_0 : 0 ≤ lv ∧ lv ≤ 15) (p_1 : 18 - lv ≤ ((k + 1 : Nat) : Int)) (p_2 : fk = 0) (p_3 : ln < li) (p_4 : at0 ≤ le) (p_5 : op0 = 0) (p_6 : nd ≤ 2 * at0 - tz tk0 + 30) (p_7 : sy ≤ na + 2) (p_8 : vi ≤ sy) (p_9 : sb = sy) (p_10 : 1 ≤ tk0) : ∀ (L : jL) (Gx : Nat → Int) (Ax : Nat → Nat → Int) (n at1 tk1 fk1 nd1 op1 sy1 na1 : Int), jGet L 0 = some (.ref 66) → jGet L 1 = some (.int (i32 (lv))) → jGet L 2 = some (.int (i32 n)) → Wk Gx Ax → Fr [9, 10, 11, 12, 13, 14, 15, 16, 17, 18, 19, 28, 29, 31] [6, 7, 8, 9, 10, 11, 12, 14, 15, 16, 17, 18, 19, 20, 21, 22, 23, 24, 28] G A Gx Ax → Pf nd A Ax → Fx sr (sy) A Ax → Fx [14] (vi) A Ax → Gx 10 = at1 → Gx 11 = tk1 → Gx 16 = fk1 → Gx 31 = nd1 → Gx 15 = op1 → Gx 19 = sy1 → Gx 28 = na1 → Gx 9 = ln → Gx 29 = vi → ((-2147483648 : Int) ≤ n ∧ n ≤ 2147483647) → (1 ≤ fk1) → (at0 ≤ at1) → (at1 ≤ le) → (nd ≤ n ∧ n ≤ 6998 ∧ n < nd1) → (sy ≤ sy1) → (sy1 ≤ na1 + 2) → (0 ≤ op1 ∧ op1 ≤ 9) → (nd1 - nd ≤ 2 * at1 - 2 * at0 + 8) → wj X d jm297 (96, L, [], rV c0 c1 Gx Ax T) (fun o V' => ∃ (G' : Nat → Int) (A' : Nat → Nat → Int) (r : Int) (ln2 : Int) (at2 : Int) (fk2 : Int) (nd2 : Int) (sy2 : Int) (na2 : Int) (vi2 : Int) (lf2 : Int), V' = rV c0 c1 G' A' T ∧ o = .inl (some (.int (i32 r))) ∧ Wk G' A' ∧ Fr [9, 10, 11, 12, 13, 14, 15, 16, 17, 18, 19, 28, 29, 31] [6, 7, 8, 9, 10, 11, 12, 14, 15, 16, 17, 18, 19, 20, 21, 22, 23, 24, 28] G A G' A' ∧ Pf nd A A' ∧ Fx sr (sy) A A' ∧ Fx [14] (vi) A A' ∧ ((-2147483648 : Int) ≤ r ∧ r ≤ 2147483647) ∧ G' 9 = ln2 ∧ G' 10 = at2 ∧ G' 16 = fk2 ∧ G' 31 = nd2 ∧ G' 19 = sy2 ∧ G' 28 = na2 ∧ G' 29 = vi2 ∧ A' 3 (ln2).toNat = lf2 ∧ (at0 ≤ at2) ∧ (nd ≤ nd2) ∧ (sy ≤ sy2) ∧ (sy2 ≤ na2 + 2) ∧ (vi ≤ vi2) ∧ (vi2 ≤ vi + 1) ∧ (0 ≤ r) ∧ (r ≤ 6999) ∧ (ln ≤ ln2) ∧ (ln2 ≤ li) ∧ (((1 ≤ fk2) ∧ (nd2 - nd ≤ 2 * at2 - (2 * at0 - tz tk0) + 14)) ∨ ((fk2 = 0) ∧ (vi2 = vi) ∧ (ln < ln2) ∧ (nd2 - nd ≤ 2 * at2 - (2 * at0 - tz tk0)) ∧ (at2 < lf2 ∨ li ≤ ln2) ∧ (nd ≤ r) ∧ (r < nd2) ∧ (wSt A' (sy2) pb (wP A' (sy2) pb (k)) (Vs) (r) (nd) (nd2) (sy) (sy2)) ∧ (NX A' (r))))) := by
  have hF0 : Fr [9, 10, 11, 12, 13, 14, 15, 16, 17, 18, 19, 28, 29, 31] [6, 7, 8, 9, 10, 11, 12, 14, 15, 16, 17, 18, 19, 20, 21, 22, 23, 24, 28] G A G A := Fr_rf
  have hP0 : Pf nd A A := Pf_rf
  have hS0 : Fx sr (sy) A A := Fx_rf
  have hV0 : Fx [14] (vi) A A := Fx_rf
  have b_ln : (0 : Int) ≤ ln ∧ ln ≤ 3000 := e_ln ▸ hW.1 9
  have b_li : (0 : Int) ≤ li ∧ li ≤ 3000 := e_li ▸ hW.1 3
  have b_at0 : (0 : Int) ≤ at0 ∧ at0 ≤ 3002 := e_at0 ▸ hW.1 10
  have b_fk : (0 : Int) ≤ fk ∧ fk ≤ 6 := e_fk ▸ hW.1 16
  have b_nd : (0 : Int) ≤ nd ∧ nd ≤ 6999 := e_nd ▸ hW.1 31
  have b_sy : (0 : Int) ≤ sy ∧ sy ≤ 202 := e_sy ▸ hW.1 19
  have b_na : (0 : Int) ≤ na ∧ na ≤ 200 := e_na ▸ hW.1 28
  have b_vi : (0 : Int) ≤ vi ∧ vi ≤ 202 := e_vi ▸ hW.1 29
  have b_le : (0 : Int) ≤ le ∧ le ≤ 3000 := e_le ▸ hW.2 4 _
  have b_op0 : (-2147483648 : Int) ≤ op0 ∧ op0 ≤ 2147483647 := e_op0 ▸ hW.1 15
  have z_tk0 := tz_f tk0
  have b_tk0 : (0 : Int) ≤ tk0 ∧ tk0 ≤ 5 := e_tk0 ▸ hW.1 11
  intro L Gx Ax n at1 tk1 fk1 nd1 op1 sy1 na1 gL_0 gL_1 gL_2 hWx hFx hPx hSx hVx ex_at1 ex_tk1 ex_fk1 ex_nd1 ex_op1 ex_sy1 ex_na1 fx_9 fx_29 rx_n iv_0 iv_1 iv_2 iv_3 iv_4 iv_5 iv_6 iv_7
  have b_at1 : (0 : Int) ≤ at1 ∧ at1 ≤ 3002 := ex_at1 ▸ hWx.1 10
  have z_tk1 := tz_f tk1
  have b_tk1 : (0 : Int) ≤ tk1 ∧ tk1 ≤ 5 := ex_tk1 ▸ hWx.1 11
  have b_fk1 : (0 : Int) ≤ fk1 ∧ fk1 ≤ 6 := ex_fk1 ▸ hWx.1 16
  have b_nd1 : (0 : Int) ≤ nd1 ∧ nd1 ≤ 6999 := ex_nd1 ▸ hWx.1 31
  have b_op1 : (-2147483648 : Int) ≤ op1 ∧ op1 ≤ 2147483647 := ex_op1 ▸ hWx.1 15
  have b_sy1 : (0 : Int) ≤ sy1 ∧ sy1 ≤ 202 := ex_sy1 ▸ hWx.1 19
  have b_na1 : (0 : Int) ≤ na1 ∧ na1 ≤ 200 := ex_na1 ▸ hWx.1 28
  refine jx_ld (pc' := 97) (l' := L) (st' := [.ref 66]) rfl (jl_aloadn gL_0) ?_
  refine jr_get (pc' := 100) (i := 36) (v := .ref 86) rfl rfl (by decide) rfl rfl ?_
  refine jx_ld (pc' := 101) (l' := L) (st' := [.int (i32 (n)), .ref 86]) rfl (jl_iloadn gL_2) ?_
  refine jx_ld (pc' := 102) (l' := L) (st' := [.ref 66, .int (i32 (n)), .ref 86]) rfl (jl_aloadn gL_0) ?_
  refine jx_vr (pc' := 105) (as := []) (st := [.int (i32 (n)), .ref 86]) rfl rfl rfl rfl ⟨rfl, rfl, Nat.le_of_ble_eq_true rfl⟩ rfl rfl (RE_all X 9 (dd := d) (hd := by omega) (hW := hWx)  (ln := ln) (e_ln := show Gx 9 = ln from (fx_9)) (le := le) (e_le := show Ax 4 (ln).toNat = le from (congrFun (hFx.2 4 rfl) _).trans (e_le)) (at0 := at1) (e_at0 := show Gx 10 = at1 from (ex_at1)) (fk := fk1) (e_fk := show Gx 16 = fk1 from (ex_fk1)) (op0 := op1) (e_op0 := show Gx 15 = op1 from (ex_op1)) (nd := nd1) (e_nd := show Gx 31 = nd1 from (ex_nd1)) (tk0 := tk1) (e_tk0 := show Gx 11 = tk1 from (ex_tk1)) (i_SV := (SV_fx i_SV e_vi (show Gx 29 = vi from (fx_29)) (by omega) hVx))   (p_0 := by omega) (p_1 := by omega) (p_2 := by omega) (p_3 := by omega) (p_4 := by omega) (p_5 := by omega)) (fun o V' hq => ?_)
  obtain ⟨G339, A340, r341, at2_342, fk2_343, op2_344, nd2_345, tk2_346, rfl, rfl, hW347, hF348, hQ349, b350, e351, e352, e353, e354, e355, p356, p357, p358, p359, p360, p361, q362⟩ := hq
  have hF363 := Fr_tr hFx hF348 (Fr_sub (by decide)) (Fr_sub (by decide))
  have hP364 := Pf_tr hPx hQ349 (by omega)
  have hS365 := Fx_f hSx hF348 (by decide)
  have hV366 := Fx_f hVx hF348 (by decide)
  have bat2_342 : (0 : Int) ≤ at2_342 ∧ at2_342 ≤ 3002 := e351 ▸ hW347.1 10
  have bfk2_343 : (0 : Int) ≤ fk2_343 ∧ fk2_343 ≤ 6 := e352 ▸ hW347.1 16
  have bop2_344 : (-2147483648 : Int) ≤ op2_344 ∧ op2_344 ≤ 2147483647 := e353 ▸ hW347.1 15
  have bnd2_345 : (0 : Int) ≤ nd2_345 ∧ nd2_345 ≤ 6999 := e354 ▸ hW347.1 31
  have ztk2_346 := tz_b tk2_346
  have btk2_346 : (0 : Int) ≤ tk2_346 ∧ tk2_346 ≤ 5 := e355 ▸ hW347.1 11
  refine .inr ⟨_, rfl, ?_⟩
  rcases q362 with ⟨a367, a368, a369, a370, a371, a372⟩ | ⟨a373, a374, a375⟩ | ⟨a376, a377, a378, a379⟩
  · have _q : True := trivial
    refine jr_st (pc' := 106) (i := 19) (m := 7000) (z := n) (y := r341) rfl (by decide) rfl (by decide) (by omega) (by omega) rfl ?_
    have hW381 : Wk G339 (uA A340 19 (n).toNat (r341)) := Wk_a hW347 (show (-2147483648 : Int) ≤ r341 by omega) (show r341 ≤ (2147483647 : Int) by omega)
    have hF382 := Fr_a (z := r341) (k := 19) (n := (n).toNat) hF363 (by decide)
    obtain ⟨A380, eA380⟩ : ∃ q, q = uA A340 19 (n).toNat (r341) := ⟨_, rfl⟩
    rw [← eA380]
    rw [← eA380] at hW381 hF382
    have q383 : A380 19 (n).toNat = r341 := by rw [eA380]; exact uA_eq
    have hP384 : Pf nd A A380 := eA380 ▸ Pf_a hP364 (z := n) (by omega) (by omega)
    have hS385 : Fx sr (sy) A A380 := eA380 ▸ Fx_n hS365 rfl
    have hV386 : Fx [14] (vi) A A380 := eA380 ▸ Fx_n hV366 rfl
    have z387 := tz_f (tk2_346)
    exact c_readSeq_at_106p (X := X) (k := k) (hP := hP) (d := d) (Vs := Vs) (sb := sb) (pb := pb) (hvb := hvb) (c0 := c0) (c1 := c1) (G := G) (A := A) (T := T) (lv := lv) (ln := ln) (li := li) (at0 := at0) (fk := fk) (nd := nd) (sy := sy) (na := na) (vi := vi) (le := le) (op0 := op0) (tk0 := tk0) (hd := hd) (hW := hW) (e_ln := e_ln) (e_li := e_li) (e_at0 := e_at0) (e_fk := e_fk) (e_nd := e_nd) (e_sy := e_sy) (e_na := e_na) (e_vi := e_vi) (e_le := e_le) (e_op0 := e_op0) (e_tk0 := e_tk0) (i_LT := i_LT) (i_SV := i_SV) (i_PQ := i_PQ) (h_lv := h_lv) (p_0 := p_0) (p_1 := p_1) (p_2 := p_2) (p_3 := p_3) (p_4 := p_4) (p_5 := p_5) (p_6 := p_6) (p_7 := p_7) (p_8 := p_8) (p_9 := p_9) (p_10 := p_10) L G339 A380 (n) (at2_342) (tk2_346) (fk2_343) (nd2_345) (op2_344) (sy1) (na1) gL_0 gL_1 gL_2 hW381 hF382 hP384 hS385 hV386 ((e351)) ((e355)) ((e352)) ((e354)) ((e353)) (((hF348.1 19 rfl).trans (ex_sy1))) (((hF348.1 28 rfl).trans (ex_na1))) (((hF348.1 9 rfl).trans (fx_9))) (((hF348.1 29 rfl).trans (fx_29))) (by omega) (by omega) (by omega) (by omega) (by omega) (by omega) (by omega) (by omega) (by omega)
  · have _q : True := trivial
    exfalso
    omega
  · have _q : True := trivial
    exfalso
    omega
set_option maxRecDepth 20000 in
set_option maxHeartbeats 4000000 in
theorem c_readSeq_at_96 {X : jX} {k : Nat} (hP : RP X k) {d : Nat} {Vs : Nat → Prop} {sb pb : Int} (hvb : VB Vs sb) {c0 c1 : jC} {G : Nat → Int} {A : Nat → Nat → Int} {T : jH} {lv : Int} {ln li at0 fk nd sy na vi le op0 tk0 : Int} (hd : 8 * k + 82 ≤ d + 1) (hW : Wk G A) (e_ln : G 9 = ln) (e_li : G 3 = li) (e_at0 : G 10 = at0) (e_fk : G 16 = fk) (e_nd : G 31 = nd) (e_sy : G 19 = sy) (e_na : G 28 = na) (e_vi : G 29 = vi) (e_le : A 4 (ln).toNat = le) (e_op0 : G 15 = op0) (e_tk0 : G 11 = tk0) (i_LT : LT G A) (i_SV : SV Vs sb G A) (i_PQ : PQ Vs sb pb G A) (h_lv : (-2147483648 : Int) ≤ lv ∧ lv ≤ 2147483647) (p_0 : 0 ≤ lv ∧ lv ≤ 15) (p_1 : 18 - lv ≤ ((k + 1 : Nat) : Int)) (p_2 : fk = 0) (p_3 : ln < li) (p_4 : at0 ≤ le) (p_5 : op0 = 0) (p_6 : nd ≤ 2 * at0 - tz tk0 + 30) (p_7 : sy ≤ na + 2) (p_8 : vi ≤ sy) (p_9 : sb = sy) (p_10 : 1 ≤ tk0) : ∀ (L : jL) (Gx : Nat → Int) (Ax : Nat → Nat → Int) (n at1 tk1 fk1 nd1 op1 sy1 na1 sa1 ka1 : Int), jGet L 0 = some (.ref 66) → jGet L 1 = some (.int (i32 (lv))) → jGet L 2 = some (.int (i32 n)) → Wk Gx Ax → Fr [9, 10, 11, 12, 13, 14, 15, 16, 17, 18, 19, 28, 29, 31] [6, 7, 8, 9, 10, 11, 12, 14, 15, 16, 17, 18, 19, 20, 21, 22, 23, 24, 28] G A Gx Ax → Pf nd A Ax → Fx sr (sy) A Ax → Fx [14] (vi) A Ax → Gx 10 = at1 → Gx 11 = tk1 → Gx 16 = fk1 → Gx 31 = nd1 → Gx 15 = op1 → Gx 19 = sy1 → Gx 28 = na1 → Ax 17 (n).toNat = sa1 → Ax 7 (sa1).toNat = ka1 → Gx 9 = ln → Gx 29 = vi → ((-2147483648 : Int) ≤ n ∧ n ≤ 2147483647) → (fk1 = 0) → (at0 ≤ at1) → (at1 ≤ le) → (n = nd) → (n ≤ 6998 ∧ n < nd1) → (sy1 = sy + 1) → (sa1 = sy) → (sy1 ≤ na1 + 2) → (op1 = 0) → (nd1 - nd ≤ (2 * at1 - tz tk1) - (2 * at0 - tz tk0)) → (ka1 = 9) → (nd1 = n + 1) → (ND Ax (n) (27) (sa1) (0) (0) (0) (0) (0)) → wj X d jm297 (96, L, [], rV c0 c1 Gx Ax T) (fun o V' => ∃ (G' : Nat → Int) (A' : Nat → Nat → Int) (r : Int) (ln2 : Int) (at2 : Int) (fk2 : Int) (nd2 : Int) (sy2 : Int) (na2 : Int) (vi2 : Int) (lf2 : Int), V' = rV c0 c1 G' A' T ∧ o = .inl (some (.int (i32 r))) ∧ Wk G' A' ∧ Fr [9, 10, 11, 12, 13, 14, 15, 16, 17, 18, 19, 28, 29, 31] [6, 7, 8, 9, 10, 11, 12, 14, 15, 16, 17, 18, 19, 20, 21, 22, 23, 24, 28] G A G' A' ∧ Pf nd A A' ∧ Fx sr (sy) A A' ∧ Fx [14] (vi) A A' ∧ ((-2147483648 : Int) ≤ r ∧ r ≤ 2147483647) ∧ G' 9 = ln2 ∧ G' 10 = at2 ∧ G' 16 = fk2 ∧ G' 31 = nd2 ∧ G' 19 = sy2 ∧ G' 28 = na2 ∧ G' 29 = vi2 ∧ A' 3 (ln2).toNat = lf2 ∧ (at0 ≤ at2) ∧ (nd ≤ nd2) ∧ (sy ≤ sy2) ∧ (sy2 ≤ na2 + 2) ∧ (vi ≤ vi2) ∧ (vi2 ≤ vi + 1) ∧ (0 ≤ r) ∧ (r ≤ 6999) ∧ (ln ≤ ln2) ∧ (ln2 ≤ li) ∧ (((1 ≤ fk2) ∧ (nd2 - nd ≤ 2 * at2 - (2 * at0 - tz tk0) + 14)) ∨ ((fk2 = 0) ∧ (vi2 = vi) ∧ (ln < ln2) ∧ (nd2 - nd ≤ 2 * at2 - (2 * at0 - tz tk0)) ∧ (at2 < lf2 ∨ li ≤ ln2) ∧ (nd ≤ r) ∧ (r < nd2) ∧ (wSt A' (sy2) pb (wP A' (sy2) pb (k)) (Vs) (r) (nd) (nd2) (sy) (sy2)) ∧ (NX A' (r))))) := by
  have hF0 : Fr [9, 10, 11, 12, 13, 14, 15, 16, 17, 18, 19, 28, 29, 31] [6, 7, 8, 9, 10, 11, 12, 14, 15, 16, 17, 18, 19, 20, 21, 22, 23, 24, 28] G A G A := Fr_rf
  have hP0 : Pf nd A A := Pf_rf
  have hS0 : Fx sr (sy) A A := Fx_rf
  have hV0 : Fx [14] (vi) A A := Fx_rf
  have b_ln : (0 : Int) ≤ ln ∧ ln ≤ 3000 := e_ln ▸ hW.1 9
  have b_li : (0 : Int) ≤ li ∧ li ≤ 3000 := e_li ▸ hW.1 3
  have b_at0 : (0 : Int) ≤ at0 ∧ at0 ≤ 3002 := e_at0 ▸ hW.1 10
  have b_fk : (0 : Int) ≤ fk ∧ fk ≤ 6 := e_fk ▸ hW.1 16
  have b_nd : (0 : Int) ≤ nd ∧ nd ≤ 6999 := e_nd ▸ hW.1 31
  have b_sy : (0 : Int) ≤ sy ∧ sy ≤ 202 := e_sy ▸ hW.1 19
  have b_na : (0 : Int) ≤ na ∧ na ≤ 200 := e_na ▸ hW.1 28
  have b_vi : (0 : Int) ≤ vi ∧ vi ≤ 202 := e_vi ▸ hW.1 29
  have b_le : (0 : Int) ≤ le ∧ le ≤ 3000 := e_le ▸ hW.2 4 _
  have b_op0 : (-2147483648 : Int) ≤ op0 ∧ op0 ≤ 2147483647 := e_op0 ▸ hW.1 15
  have z_tk0 := tz_f tk0
  have b_tk0 : (0 : Int) ≤ tk0 ∧ tk0 ≤ 5 := e_tk0 ▸ hW.1 11
  intro L Gx Ax n at1 tk1 fk1 nd1 op1 sy1 na1 sa1 ka1 gL_0 gL_1 gL_2 hWx hFx hPx hSx hVx ex_at1 ex_tk1 ex_fk1 ex_nd1 ex_op1 ex_sy1 ex_na1 ex_sa1 ex_ka1 fx_9 fx_29 rx_n iv_0 iv_1 iv_2 iv_3 iv_4 iv_5 iv_6 iv_7 iv_8 iv_9 iv_10 iv_11 iv_12
  have b_at1 : (0 : Int) ≤ at1 ∧ at1 ≤ 3002 := ex_at1 ▸ hWx.1 10
  have z_tk1 := tz_f tk1
  have b_tk1 : (0 : Int) ≤ tk1 ∧ tk1 ≤ 5 := ex_tk1 ▸ hWx.1 11
  have b_fk1 : (0 : Int) ≤ fk1 ∧ fk1 ≤ 6 := ex_fk1 ▸ hWx.1 16
  have b_nd1 : (0 : Int) ≤ nd1 ∧ nd1 ≤ 6999 := ex_nd1 ▸ hWx.1 31
  have b_op1 : (-2147483648 : Int) ≤ op1 ∧ op1 ≤ 2147483647 := ex_op1 ▸ hWx.1 15
  have b_sy1 : (0 : Int) ≤ sy1 ∧ sy1 ≤ 202 := ex_sy1 ▸ hWx.1 19
  have b_na1 : (0 : Int) ≤ na1 ∧ na1 ≤ 200 := ex_na1 ▸ hWx.1 28
  refine jx_ld (pc' := 97) (l' := L) (st' := [.ref 66]) rfl (jl_aloadn gL_0) ?_
  refine jr_get (pc' := 100) (i := 36) (v := .ref 86) rfl rfl (by decide) rfl rfl ?_
  refine jx_ld (pc' := 101) (l' := L) (st' := [.int (i32 (n)), .ref 86]) rfl (jl_iloadn gL_2) ?_
  refine jx_ld (pc' := 102) (l' := L) (st' := [.ref 66, .int (i32 (n)), .ref 86]) rfl (jl_aloadn gL_0) ?_
  refine jx_vr (pc' := 105) (as := []) (st := [.int (i32 (n)), .ref 86]) rfl rfl rfl rfl ⟨rfl, rfl, Nat.le_of_ble_eq_true rfl⟩ rfl rfl (RE_all X 9 (dd := d) (hd := by omega) (hW := hWx)  (ln := ln) (e_ln := show Gx 9 = ln from (fx_9)) (le := le) (e_le := show Ax 4 (ln).toNat = le from (congrFun (hFx.2 4 rfl) _).trans (e_le)) (at0 := at1) (e_at0 := show Gx 10 = at1 from (ex_at1)) (fk := fk1) (e_fk := show Gx 16 = fk1 from (ex_fk1)) (op0 := op1) (e_op0 := show Gx 15 = op1 from (ex_op1)) (nd := nd1) (e_nd := show Gx 31 = nd1 from (ex_nd1)) (tk0 := tk1) (e_tk0 := show Gx 11 = tk1 from (ex_tk1)) (i_SV := (SV_fx i_SV e_vi (show Gx 29 = vi from (fx_29)) (by omega) hVx))   (p_0 := by omega) (p_1 := by omega) (p_2 := by omega) (p_3 := by omega) (p_4 := by omega) (p_5 := by omega)) (fun o V' hq => ?_)
  obtain ⟨G388, A389, r390, at2_391, fk2_392, op2_393, nd2_394, tk2_395, rfl, rfl, hW396, hF397, hQ398, b399, e400, e401, e402, e403, e404, p405, p406, p407, p408, p409, p410, q411⟩ := hq
  have hF412 := Fr_tr hFx hF397 (Fr_sub (by decide)) (Fr_sub (by decide))
  have k413 : A389 17 (n).toNat = sa1 := (hQ398 17 _ rfl (by omega)).trans (show Ax 17 (n).toNat = sa1 from (ex_sa1))
  have hP414 := Pf_tr hPx hQ398 (by omega)
  have hS415 := Fx_f hSx hF397 (by decide)
  have hV416 := Fx_f hVx hF397 (by decide)
  have sf417 : ND A389 (n) (27) (sa1) (0) (0) (0) (0) (0) := ND_ag (by omega) (Ag_pf hQ398 (by omega)) iv_12
  have bat2_391 : (0 : Int) ≤ at2_391 ∧ at2_391 ≤ 3002 := e400 ▸ hW396.1 10
  have bfk2_392 : (0 : Int) ≤ fk2_392 ∧ fk2_392 ≤ 6 := e401 ▸ hW396.1 16
  have bop2_393 : (-2147483648 : Int) ≤ op2_393 ∧ op2_393 ≤ 2147483647 := e402 ▸ hW396.1 15
  have bnd2_394 : (0 : Int) ≤ nd2_394 ∧ nd2_394 ≤ 6999 := e403 ▸ hW396.1 31
  have ztk2_395 := tz_b tk2_395
  have btk2_395 : (0 : Int) ≤ tk2_395 ∧ tk2_395 ≤ 5 := e404 ▸ hW396.1 11
  refine .inr ⟨_, rfl, ?_⟩
  rcases q411 with ⟨a418, a419, a420, a421, a422, a423⟩ | ⟨a424, a425, a426⟩ | ⟨a427, a428, a429, a430⟩
  · have _q : True := trivial
    exfalso
    omega
  · have _q : True := trivial
    refine jr_st (pc' := 106) (i := 19) (m := 7000) (z := n) (y := r390) rfl (by decide) rfl (by decide) (by omega) (by omega) rfl ?_
    have hW432 : Wk G388 (uA A389 19 (n).toNat (r390)) := Wk_a hW396 (show (-2147483648 : Int) ≤ r390 by omega) (show r390 ≤ (2147483647 : Int) by omega)
    have hF433 := Fr_a (z := r390) (k := 19) (n := (n).toNat) hF412 (by decide)
    obtain ⟨A431, eA431⟩ : ∃ q, q = uA A389 19 (n).toNat (r390) := ⟨_, rfl⟩
    rw [← eA431]
    rw [← eA431] at hW432 hF433
    have q434 : A431 19 (n).toNat = r390 := by rw [eA431]; exact uA_eq
    have hP435 : Pf nd A A431 := eA431 ▸ Pf_a hP414 (z := n) (by omega) (by omega)
    have hS436 : Fx sr (sy) A A431 := eA431 ▸ Fx_n hS415 rfl
    have hV437 : Fx [14] (vi) A A431 := eA431 ▸ Fx_n hV416 rfl
    have sf438 : ND A431 (n) (27) (sa1) (0) (r390) (0) (0) (0) := ND_c eA431 sf417
    have z439 := tz_f (tk2_395)
    exact c_readSeq_at_106p (X := X) (k := k) (hP := hP) (d := d) (Vs := Vs) (sb := sb) (pb := pb) (hvb := hvb) (c0 := c0) (c1 := c1) (G := G) (A := A) (T := T) (lv := lv) (ln := ln) (li := li) (at0 := at0) (fk := fk) (nd := nd) (sy := sy) (na := na) (vi := vi) (le := le) (op0 := op0) (tk0 := tk0) (hd := hd) (hW := hW) (e_ln := e_ln) (e_li := e_li) (e_at0 := e_at0) (e_fk := e_fk) (e_nd := e_nd) (e_sy := e_sy) (e_na := e_na) (e_vi := e_vi) (e_le := e_le) (e_op0 := e_op0) (e_tk0 := e_tk0) (i_LT := i_LT) (i_SV := i_SV) (i_PQ := i_PQ) (h_lv := h_lv) (p_0 := p_0) (p_1 := p_1) (p_2 := p_2) (p_3 := p_3) (p_4 := p_4) (p_5 := p_5) (p_6 := p_6) (p_7 := p_7) (p_8 := p_8) (p_9 := p_9) (p_10 := p_10) L G388 A431 (n) (at2_391) (tk2_395) (fk2_392) (nd2_394) (op2_393) (sy1) (na1) gL_0 gL_1 gL_2 hW432 hF433 hP435 hS436 hV437 ((e400)) ((e404)) ((e401)) ((e403)) ((e402)) (((hF397.1 19 rfl).trans (ex_sy1))) (((hF397.1 28 rfl).trans (ex_na1))) (((hF397.1 9 rfl).trans (fx_9))) (((hF397.1 29 rfl).trans (fx_29))) (by omega) (by omega) (by omega) (by omega) (by omega) (by omega) (by omega) (by omega) (by omega)
  · have _q : True := trivial
    refine jr_st (pc' := 106) (i := 19) (m := 7000) (z := n) (y := r390) rfl (by decide) rfl (by decide) (by omega) (by omega) rfl ?_
    have hW441 : Wk G388 (uA A389 19 (n).toNat (r390)) := Wk_a hW396 (show (-2147483648 : Int) ≤ r390 by omega) (show r390 ≤ (2147483647 : Int) by omega)
    have hF442 := Fr_a (z := r390) (k := 19) (n := (n).toNat) hF412 (by decide)
    obtain ⟨A440, eA440⟩ : ∃ q, q = uA A389 19 (n).toNat (r390) := ⟨_, rfl⟩
    rw [← eA440]
    rw [← eA440] at hW441 hF442
    have q443 : A440 19 (n).toNat = r390 := by rw [eA440]; exact uA_eq
    have hP444 : Pf nd A A440 := eA440 ▸ Pf_a hP414 (z := n) (by omega) (by omega)
    have hS445 : Fx sr (sy) A A440 := eA440 ▸ Fx_n hS415 rfl
    have hV446 : Fx [14] (vi) A A440 := eA440 ▸ Fx_n hV416 rfl
    have sf447 : ND A440 (n) (27) (sa1) (0) (r390) (0) (0) (0) := ND_c eA440 sf417
    have sf448 : wE A440 Vs sb (2 * 9 + 2) (r390) (nd1) (nd2_394) := wE_ag (by omega) (Sg_ne eA440 rfl) (Ag_st eA440 (by omega) (by omega)) a430
    have z449 := tz_f (tk2_395)
    exact c_readSeq_at_106 (X := X) (k := k) (hP := hP) (d := d) (Vs := Vs) (sb := sb) (pb := pb) (hvb := hvb) (c0 := c0) (c1 := c1) (G := G) (A := A) (T := T) (lv := lv) (ln := ln) (li := li) (at0 := at0) (fk := fk) (nd := nd) (sy := sy) (na := na) (vi := vi) (le := le) (op0 := op0) (tk0 := tk0) (hd := hd) (hW := hW) (e_ln := e_ln) (e_li := e_li) (e_at0 := e_at0) (e_fk := e_fk) (e_nd := e_nd) (e_sy := e_sy) (e_na := e_na) (e_vi := e_vi) (e_le := e_le) (e_op0 := e_op0) (e_tk0 := e_tk0) (i_LT := i_LT) (i_SV := i_SV) (i_PQ := i_PQ) (h_lv := h_lv) (p_0 := p_0) (p_1 := p_1) (p_2 := p_2) (p_3 := p_3) (p_4 := p_4) (p_5 := p_5) (p_6 := p_6) (p_7 := p_7) (p_8 := p_8) (p_9 := p_9) (p_10 := p_10) L G388 A440 (n) (at2_391) (tk2_395) (fk2_392) (nd2_394) (op2_393) (sy1) (na1) (sa1) (ka1) (r390) gL_0 gL_1 gL_2 hW441 hF442 hP444 hS445 hV446 ((e400)) ((e404)) ((e401)) ((e403)) ((e402)) (((hF397.1 19 rfl).trans (ex_sy1))) (((hF397.1 28 rfl).trans (ex_na1))) ((congrFun ((congrFun eA440 17).trans (uA_ne (by decide))) _).trans (k413)) ((congrFun (((congrFun eA440 7).trans (uA_ne (by decide))).trans (hF397.2 7 rfl)) _).trans (ex_ka1)) ((q443)) (((hF397.1 9 rfl).trans (fx_9))) (((hF397.1 29 rfl).trans (fx_29))) (by omega) (by omega) (by omega) (by omega) (by omega) (by omega) (by omega) (by omega) (by omega) (by omega) (by omega) (by omega) (sf447) ((wE_mono (by omega) (by omega) (by omega) sf448))
set_option maxRecDepth 20000 in
set_option maxHeartbeats 4000000 in
theorem c_readSeq_at_86p {X : jX} {k : Nat} (hP : RP X k) {d : Nat} {Vs : Nat → Prop} {sb pb : Int} (hvb : VB Vs sb) {c0 c1 : jC} {G : Nat → Int} {A : Nat → Nat → Int} {T : jH} {lv : Int} {ln li at0 fk nd sy na vi le op0 tk0 : Int} (hd : 8 * k + 82 ≤ d + 1) (hW : Wk G A) (e_ln : G 9 = ln) (e_li : G 3 = li) (e_at0 : G 10 = at0) (e_fk : G 16 = fk) (e_nd : G 31 = nd) (e_sy : G 19 = sy) (e_na : G 28 = na) (e_vi : G 29 = vi) (e_le : A 4 (ln).toNat = le) (e_op0 : G 15 = op0) (e_tk0 : G 11 = tk0) (i_LT : LT G A) (i_SV : SV Vs sb G A) (i_PQ : PQ Vs sb pb G A) (h_lv : (-2147483648 : Int) ≤ lv ∧ lv ≤ 2147483647) (p_0 : 0 ≤ lv ∧ lv ≤ 15) (p_1 : 18 - lv ≤ ((k + 1 : Nat) : Int)) (p_2 : fk = 0) (p_3 : ln < li) (p_4 : at0 ≤ le) (p_5 : op0 = 0) (p_6 : nd ≤ 2 * at0 - tz tk0 + 30) (p_7 : sy ≤ na + 2) (p_8 : vi ≤ sy) (p_9 : sb = sy) (p_10 : 1 ≤ tk0) : ∀ (L : jL) (Gx : Nat → Int) (Ax : Nat → Nat → Int) (n at1 tk1 fk1 nd1 op1 sy1 na1 : Int), jGet L 0 = some (.ref 66) → jGet L 1 = some (.int (i32 (lv))) → jGet L 2 = some (.int (i32 n)) → Wk Gx Ax → Fr [9, 10, 11, 12, 13, 14, 15, 16, 17, 18, 19, 28, 29, 31] [6, 7, 8, 9, 10, 11, 12, 14, 15, 16, 17, 18, 19, 20, 21, 22, 23, 24, 28] G A Gx Ax → Pf nd A Ax → Fx sr (sy) A Ax → Fx [14] (vi) A Ax → Gx 10 = at1 → Gx 11 = tk1 → Gx 16 = fk1 → Gx 31 = nd1 → Gx 15 = op1 → Gx 19 = sy1 → Gx 28 = na1 → Gx 9 = ln → Gx 29 = vi → ((-2147483648 : Int) ≤ n ∧ n ≤ 2147483647) → (1 ≤ fk1) → (at0 ≤ at1) → (at1 ≤ le) → (nd ≤ n ∧ n ≤ 6998 ∧ n < nd1) → (sy ≤ sy1) → (sy1 ≤ na1 + 2) → (0 ≤ op1 ∧ op1 ≤ 9) → (nd1 - nd ≤ 2 * at1 - 2 * at0 + 8) → wj X d jm297 (86, L, [], rV c0 c1 Gx Ax T) (fun o V' => ∃ (G' : Nat → Int) (A' : Nat → Nat → Int) (r : Int) (ln2 : Int) (at2 : Int) (fk2 : Int) (nd2 : Int) (sy2 : Int) (na2 : Int) (vi2 : Int) (lf2 : Int), V' = rV c0 c1 G' A' T ∧ o = .inl (some (.int (i32 r))) ∧ Wk G' A' ∧ Fr [9, 10, 11, 12, 13, 14, 15, 16, 17, 18, 19, 28, 29, 31] [6, 7, 8, 9, 10, 11, 12, 14, 15, 16, 17, 18, 19, 20, 21, 22, 23, 24, 28] G A G' A' ∧ Pf nd A A' ∧ Fx sr (sy) A A' ∧ Fx [14] (vi) A A' ∧ ((-2147483648 : Int) ≤ r ∧ r ≤ 2147483647) ∧ G' 9 = ln2 ∧ G' 10 = at2 ∧ G' 16 = fk2 ∧ G' 31 = nd2 ∧ G' 19 = sy2 ∧ G' 28 = na2 ∧ G' 29 = vi2 ∧ A' 3 (ln2).toNat = lf2 ∧ (at0 ≤ at2) ∧ (nd ≤ nd2) ∧ (sy ≤ sy2) ∧ (sy2 ≤ na2 + 2) ∧ (vi ≤ vi2) ∧ (vi2 ≤ vi + 1) ∧ (0 ≤ r) ∧ (r ≤ 6999) ∧ (ln ≤ ln2) ∧ (ln2 ≤ li) ∧ (((1 ≤ fk2) ∧ (nd2 - nd ≤ 2 * at2 - (2 * at0 - tz tk0) + 14)) ∨ ((fk2 = 0) ∧ (vi2 = vi) ∧ (ln < ln2) ∧ (nd2 - nd ≤ 2 * at2 - (2 * at0 - tz tk0)) ∧ (at2 < lf2 ∨ li ≤ ln2) ∧ (nd ≤ r) ∧ (r < nd2) ∧ (wSt A' (sy2) pb (wP A' (sy2) pb (k)) (Vs) (r) (nd) (nd2) (sy) (sy2)) ∧ (NX A' (r))))) := by
  have hF0 : Fr [9, 10, 11, 12, 13, 14, 15, 16, 17, 18, 19, 28, 29, 31] [6, 7, 8, 9, 10, 11, 12, 14, 15, 16, 17, 18, 19, 20, 21, 22, 23, 24, 28] G A G A := Fr_rf
  have hP0 : Pf nd A A := Pf_rf
  have hS0 : Fx sr (sy) A A := Fx_rf
  have hV0 : Fx [14] (vi) A A := Fx_rf
  have b_ln : (0 : Int) ≤ ln ∧ ln ≤ 3000 := e_ln ▸ hW.1 9
  have b_li : (0 : Int) ≤ li ∧ li ≤ 3000 := e_li ▸ hW.1 3
  have b_at0 : (0 : Int) ≤ at0 ∧ at0 ≤ 3002 := e_at0 ▸ hW.1 10
  have b_fk : (0 : Int) ≤ fk ∧ fk ≤ 6 := e_fk ▸ hW.1 16
  have b_nd : (0 : Int) ≤ nd ∧ nd ≤ 6999 := e_nd ▸ hW.1 31
  have b_sy : (0 : Int) ≤ sy ∧ sy ≤ 202 := e_sy ▸ hW.1 19
  have b_na : (0 : Int) ≤ na ∧ na ≤ 200 := e_na ▸ hW.1 28
  have b_vi : (0 : Int) ≤ vi ∧ vi ≤ 202 := e_vi ▸ hW.1 29
  have b_le : (0 : Int) ≤ le ∧ le ≤ 3000 := e_le ▸ hW.2 4 _
  have b_op0 : (-2147483648 : Int) ≤ op0 ∧ op0 ≤ 2147483647 := e_op0 ▸ hW.1 15
  have z_tk0 := tz_f tk0
  have b_tk0 : (0 : Int) ≤ tk0 ∧ tk0 ≤ 5 := e_tk0 ▸ hW.1 11
  intro L Gx Ax n at1 tk1 fk1 nd1 op1 sy1 na1 gL_0 gL_1 gL_2 hWx hFx hPx hSx hVx ex_at1 ex_tk1 ex_fk1 ex_nd1 ex_op1 ex_sy1 ex_na1 fx_9 fx_29 rx_n iv_0 iv_1 iv_2 iv_3 iv_4 iv_5 iv_6 iv_7
  have b_at1 : (0 : Int) ≤ at1 ∧ at1 ≤ 3002 := ex_at1 ▸ hWx.1 10
  have z_tk1 := tz_f tk1
  have b_tk1 : (0 : Int) ≤ tk1 ∧ tk1 ≤ 5 := ex_tk1 ▸ hWx.1 11
  have b_fk1 : (0 : Int) ≤ fk1 ∧ fk1 ≤ 6 := ex_fk1 ▸ hWx.1 16
  have b_nd1 : (0 : Int) ≤ nd1 ∧ nd1 ≤ 6999 := ex_nd1 ▸ hWx.1 31
  have b_op1 : (-2147483648 : Int) ≤ op1 ∧ op1 ≤ 2147483647 := ex_op1 ▸ hWx.1 15
  have b_sy1 : (0 : Int) ≤ sy1 ∧ sy1 ≤ 202 := ex_sy1 ▸ hWx.1 19
  have b_na1 : (0 : Int) ≤ na1 ∧ na1 ≤ 200 := ex_na1 ▸ hWx.1 28
  refine jx_ld (pc' := 87) (l' := L) (st' := [.ref 66]) rfl (jl_aloadn gL_0) ?_
  refine jx_ld (pc' := 88) (l' := L) (st' := [.ref 66, .ref 66]) rfl (jl_aloadn gL_0) ?_
  refine jx_ar (pc' := 90) (st' := [.int (i32 (61)), .ref 66, .ref 66]) rfl rfl rfl rfl ?_
  have b450 : (-2147483648 : Int) ≤ Gx 13 ∧ Gx 13 ≤ 2147483647 := hWx.1 13
  refine jx_vr (pc' := 93) (as := [.int (i32 (61))]) (st := [.ref 66]) rfl rfl rfl rfl ⟨rfl, rfl, Nat.le_of_ble_eq_true rfl⟩ rfl rfl (c_is (dd := d) (hd := by omega) (hW := hWx) (k := 61) (tk := tk1) (e_tk := show Gx 11 = tk1 from (ex_tk1)) (tn := Gx 13) (e_tn := show Gx 13 = Gx 13 from rfl)  (h_k := ⟨(by decide), (by decide)⟩)  ) (fun o V' hq => ?_)
  obtain ⟨r451, rfl, rfl, b452, q453⟩ := hq
  refine .inr ⟨_, rfl, ?_⟩
  rcases q453 with ⟨rfl, a454, a455, a456⟩ | rfl
  · have _q : True := trivial
    refine jx_vr (pc' := 96) (as := [.int (i32 (1))]) (st := []) rfl rfl rfl rfl ⟨rfl, rfl, Nat.le_of_ble_eq_true rfl⟩ rfl rfl (c_need (dd := d) (hd := by omega) (hW := hWx) (g := 1) (ln := ln) (e_ln := show Gx 9 = ln from (fx_9)) (le := le) (e_le := show Ax 4 (ln).toNat = le from (congrFun (hFx.2 4 rfl) _).trans (e_le)) (at0 := at1) (e_at0 := show Gx 10 = at1 from (ex_at1)) (fk := fk1) (e_fk := show Gx 16 = fk1 from (ex_fk1)) (tk0 := tk1) (e_tk0 := show Gx 11 = tk1 from (ex_tk1))  (h_g := ⟨(by decide), (by decide)⟩)  (p_0 := by omega)) (fun o V' hq => ?_)
    obtain ⟨G457, A458, at2_459, tk2_460, fk2_461, rfl, rfl, hW462, hF463, e464, e465, e466, p467, p468, q469⟩ := hq
    have hF470 := Fr_tr hFx hF463 (Fr_sub (by decide)) (Fr_sub (by decide))
    have hP471 := Pf_f hPx hF463 (by decide)
    have hS472 := Fx_f hSx hF463 (by decide)
    have hV473 := Fx_f hVx hF463 (by decide)
    have bat2_459 : (0 : Int) ≤ at2_459 ∧ at2_459 ≤ 3002 := e464 ▸ hW462.1 10
    have ztk2_460 := tz_b tk2_460
    have btk2_460 : (0 : Int) ≤ tk2_460 ∧ tk2_460 ≤ 5 := e465 ▸ hW462.1 11
    have bfk2_461 : (0 : Int) ≤ fk2_461 ∧ fk2_461 ≤ 6 := e466 ▸ hW462.1 16
    refine .inl ⟨rfl, ?_⟩
    rcases q469 with ⟨a474, a475, a476, a477⟩ | ⟨a478, a479, a480, a481⟩
    · have _q : True := trivial
      have z482 := tz_f (tk2_460)
      exact c_readSeq_at_96p (X := X) (k := k) (hP := hP) (d := d) (Vs := Vs) (sb := sb) (pb := pb) (hvb := hvb) (c0 := c0) (c1 := c1) (G := G) (A := A) (T := T) (lv := lv) (ln := ln) (li := li) (at0 := at0) (fk := fk) (nd := nd) (sy := sy) (na := na) (vi := vi) (le := le) (op0 := op0) (tk0 := tk0) (hd := hd) (hW := hW) (e_ln := e_ln) (e_li := e_li) (e_at0 := e_at0) (e_fk := e_fk) (e_nd := e_nd) (e_sy := e_sy) (e_na := e_na) (e_vi := e_vi) (e_le := e_le) (e_op0 := e_op0) (e_tk0 := e_tk0) (i_LT := i_LT) (i_SV := i_SV) (i_PQ := i_PQ) (h_lv := h_lv) (p_0 := p_0) (p_1 := p_1) (p_2 := p_2) (p_3 := p_3) (p_4 := p_4) (p_5 := p_5) (p_6 := p_6) (p_7 := p_7) (p_8 := p_8) (p_9 := p_9) (p_10 := p_10) L G457 A458 (n) (at2_459) (tk2_460) (fk2_461) (nd1) (op1) (sy1) (na1) gL_0 gL_1 gL_2 hW462 hF470 hP471 hS472 hV473 ((e464)) ((e465)) ((e466)) (((hF463.1 31 rfl).trans (ex_nd1))) (((hF463.1 15 rfl).trans (ex_op1))) (((hF463.1 19 rfl).trans (ex_sy1))) (((hF463.1 28 rfl).trans (ex_na1))) (((hF463.1 9 rfl).trans (fx_9))) (((hF463.1 29 rfl).trans (fx_29))) (by omega) (by omega) (by omega) (by omega) (by omega) (by omega) (by omega) (by omega) (by omega)
    · have _q : True := trivial
      exfalso
      omega
  · have _q : True := trivial
    refine jx_vr (pc' := 96) (as := [.int (i32 (0))]) (st := []) rfl rfl rfl rfl ⟨rfl, rfl, Nat.le_of_ble_eq_true rfl⟩ rfl rfl (c_need (dd := d) (hd := by omega) (hW := hWx) (g := 0) (ln := ln) (e_ln := show Gx 9 = ln from (fx_9)) (le := le) (e_le := show Ax 4 (ln).toNat = le from (congrFun (hFx.2 4 rfl) _).trans (e_le)) (at0 := at1) (e_at0 := show Gx 10 = at1 from (ex_at1)) (fk := fk1) (e_fk := show Gx 16 = fk1 from (ex_fk1)) (tk0 := tk1) (e_tk0 := show Gx 11 = tk1 from (ex_tk1))  (h_g := ⟨(by decide), (by decide)⟩)  (p_0 := by omega)) (fun o V' hq => ?_)
    obtain ⟨G483, A484, at2_485, tk2_486, fk2_487, rfl, rfl, hW488, hF489, e490, e491, e492, p493, p494, q495⟩ := hq
    have hF496 := Fr_tr hFx hF489 (Fr_sub (by decide)) (Fr_sub (by decide))
    have hP497 := Pf_f hPx hF489 (by decide)
    have hS498 := Fx_f hSx hF489 (by decide)
    have hV499 := Fx_f hVx hF489 (by decide)
    have bat2_485 : (0 : Int) ≤ at2_485 ∧ at2_485 ≤ 3002 := e490 ▸ hW488.1 10
    have ztk2_486 := tz_b tk2_486
    have btk2_486 : (0 : Int) ≤ tk2_486 ∧ tk2_486 ≤ 5 := e491 ▸ hW488.1 11
    have bfk2_487 : (0 : Int) ≤ fk2_487 ∧ fk2_487 ≤ 6 := e492 ▸ hW488.1 16
    refine .inl ⟨rfl, ?_⟩
    rcases q495 with ⟨a500, a501, a502, a503⟩ | ⟨a504, a505, a506, a507⟩
    · have _q : True := trivial
      have z508 := tz_f (tk2_486)
      exact c_readSeq_at_96p (X := X) (k := k) (hP := hP) (d := d) (Vs := Vs) (sb := sb) (pb := pb) (hvb := hvb) (c0 := c0) (c1 := c1) (G := G) (A := A) (T := T) (lv := lv) (ln := ln) (li := li) (at0 := at0) (fk := fk) (nd := nd) (sy := sy) (na := na) (vi := vi) (le := le) (op0 := op0) (tk0 := tk0) (hd := hd) (hW := hW) (e_ln := e_ln) (e_li := e_li) (e_at0 := e_at0) (e_fk := e_fk) (e_nd := e_nd) (e_sy := e_sy) (e_na := e_na) (e_vi := e_vi) (e_le := e_le) (e_op0 := e_op0) (e_tk0 := e_tk0) (i_LT := i_LT) (i_SV := i_SV) (i_PQ := i_PQ) (h_lv := h_lv) (p_0 := p_0) (p_1 := p_1) (p_2 := p_2) (p_3 := p_3) (p_4 := p_4) (p_5 := p_5) (p_6 := p_6) (p_7 := p_7) (p_8 := p_8) (p_9 := p_9) (p_10 := p_10) L G483 A484 (n) (at2_485) (tk2_486) (fk2_487) (nd1) (op1) (sy1) (na1) gL_0 gL_1 gL_2 hW488 hF496 hP497 hS498 hV499 ((e490)) ((e491)) ((e492)) (((hF489.1 31 rfl).trans (ex_nd1))) (((hF489.1 15 rfl).trans (ex_op1))) (((hF489.1 19 rfl).trans (ex_sy1))) (((hF489.1 28 rfl).trans (ex_na1))) (((hF489.1 9 rfl).trans (fx_9))) (((hF489.1 29 rfl).trans (fx_29))) (by omega) (by omega) (by omega) (by omega) (by omega) (by omega) (by omega) (by omega) (by omega)
    · have _q : True := trivial
      exfalso
      omega
set_option maxRecDepth 20000 in
set_option maxHeartbeats 4000000 in
theorem c_readSeq_at_86 {X : jX} {k : Nat} (hP : RP X k) {d : Nat} {Vs : Nat → Prop} {sb pb : Int} (hvb : VB Vs sb) {c0 c1 : jC} {G : Nat → Int} {A : Nat → Nat → Int} {T : jH} {lv : Int} {ln li at0 fk nd sy na vi le op0 tk0 : Int} (hd : 8 * k + 82 ≤ d + 1) (hW : Wk G A) (e_ln : G 9 = ln) (e_li : G 3 = li) (e_at0 : G 10 = at0) (e_fk : G 16 = fk) (e_nd : G 31 = nd) (e_sy : G 19 = sy) (e_na : G 28 = na) (e_vi : G 29 = vi) (e_le : A 4 (ln).toNat = le) (e_op0 : G 15 = op0) (e_tk0 : G 11 = tk0) (i_LT : LT G A) (i_SV : SV Vs sb G A) (i_PQ : PQ Vs sb pb G A) (h_lv : (-2147483648 : Int) ≤ lv ∧ lv ≤ 2147483647) (p_0 : 0 ≤ lv ∧ lv ≤ 15) (p_1 : 18 - lv ≤ ((k + 1 : Nat) : Int)) (p_2 : fk = 0) (p_3 : ln < li) (p_4 : at0 ≤ le) (p_5 : op0 = 0) (p_6 : nd ≤ 2 * at0 - tz tk0 + 30) (p_7 : sy ≤ na + 2) (p_8 : vi ≤ sy) (p_9 : sb = sy) (p_10 : 1 ≤ tk0) : ∀ (L : jL) (Gx : Nat → Int) (Ax : Nat → Nat → Int) (n at1 tk1 fk1 nd1 op1 sy1 na1 sa1 ka1 : Int), jGet L 0 = some (.ref 66) → jGet L 1 = some (.int (i32 (lv))) → jGet L 2 = some (.int (i32 n)) → Wk Gx Ax → Fr [9, 10, 11, 12, 13, 14, 15, 16, 17, 18, 19, 28, 29, 31] [6, 7, 8, 9, 10, 11, 12, 14, 15, 16, 17, 18, 19, 20, 21, 22, 23, 24, 28] G A Gx Ax → Pf nd A Ax → Fx sr (sy) A Ax → Fx [14] (vi) A Ax → Gx 10 = at1 → Gx 11 = tk1 → Gx 16 = fk1 → Gx 31 = nd1 → Gx 15 = op1 → Gx 19 = sy1 → Gx 28 = na1 → Ax 17 (n).toNat = sa1 → Ax 7 (sa1).toNat = ka1 → Gx 9 = ln → Gx 29 = vi → ((-2147483648 : Int) ≤ n ∧ n ≤ 2147483647) → (fk1 = 0) → (at0 ≤ at1) → (at1 ≤ le) → (n = nd) → (n ≤ 6998 ∧ n < nd1) → (sy1 = sy + 1) → (sa1 = sy) → (sy1 ≤ na1 + 2) → (op1 = 0) → (nd1 - nd ≤ (2 * at1 - tz tk1) - (2 * at0 - tz tk0)) → (ka1 = 9) → (nd1 = n + 1) → (ND Ax (n) (27) (sa1) (0) (0) (0) (0) (0)) → wj X d jm297 (86, L, [], rV c0 c1 Gx Ax T) (fun o V' => ∃ (G' : Nat → Int) (A' : Nat → Nat → Int) (r : Int) (ln2 : Int) (at2 : Int) (fk2 : Int) (nd2 : Int) (sy2 : Int) (na2 : Int) (vi2 : Int) (lf2 : Int), V' = rV c0 c1 G' A' T ∧ o = .inl (some (.int (i32 r))) ∧ Wk G' A' ∧ Fr [9, 10, 11, 12, 13, 14, 15, 16, 17, 18, 19, 28, 29, 31] [6, 7, 8, 9, 10, 11, 12, 14, 15, 16, 17, 18, 19, 20, 21, 22, 23, 24, 28] G A G' A' ∧ Pf nd A A' ∧ Fx sr (sy) A A' ∧ Fx [14] (vi) A A' ∧ ((-2147483648 : Int) ≤ r ∧ r ≤ 2147483647) ∧ G' 9 = ln2 ∧ G' 10 = at2 ∧ G' 16 = fk2 ∧ G' 31 = nd2 ∧ G' 19 = sy2 ∧ G' 28 = na2 ∧ G' 29 = vi2 ∧ A' 3 (ln2).toNat = lf2 ∧ (at0 ≤ at2) ∧ (nd ≤ nd2) ∧ (sy ≤ sy2) ∧ (sy2 ≤ na2 + 2) ∧ (vi ≤ vi2) ∧ (vi2 ≤ vi + 1) ∧ (0 ≤ r) ∧ (r ≤ 6999) ∧ (ln ≤ ln2) ∧ (ln2 ≤ li) ∧ (((1 ≤ fk2) ∧ (nd2 - nd ≤ 2 * at2 - (2 * at0 - tz tk0) + 14)) ∨ ((fk2 = 0) ∧ (vi2 = vi) ∧ (ln < ln2) ∧ (nd2 - nd ≤ 2 * at2 - (2 * at0 - tz tk0)) ∧ (at2 < lf2 ∨ li ≤ ln2) ∧ (nd ≤ r) ∧ (r < nd2) ∧ (wSt A' (sy2) pb (wP A' (sy2) pb (k)) (Vs) (r) (nd) (nd2) (sy) (sy2)) ∧ (NX A' (r))))) := by
  have hF0 : Fr [9, 10, 11, 12, 13, 14, 15, 16, 17, 18, 19, 28, 29, 31] [6, 7, 8, 9, 10, 11, 12, 14, 15, 16, 17, 18, 19, 20, 21, 22, 23, 24, 28] G A G A := Fr_rf
  have hP0 : Pf nd A A := Pf_rf
  have hS0 : Fx sr (sy) A A := Fx_rf
  have hV0 : Fx [14] (vi) A A := Fx_rf
  have b_ln : (0 : Int) ≤ ln ∧ ln ≤ 3000 := e_ln ▸ hW.1 9
  have b_li : (0 : Int) ≤ li ∧ li ≤ 3000 := e_li ▸ hW.1 3
  have b_at0 : (0 : Int) ≤ at0 ∧ at0 ≤ 3002 := e_at0 ▸ hW.1 10
  have b_fk : (0 : Int) ≤ fk ∧ fk ≤ 6 := e_fk ▸ hW.1 16
  have b_nd : (0 : Int) ≤ nd ∧ nd ≤ 6999 := e_nd ▸ hW.1 31
  have b_sy : (0 : Int) ≤ sy ∧ sy ≤ 202 := e_sy ▸ hW.1 19
  have b_na : (0 : Int) ≤ na ∧ na ≤ 200 := e_na ▸ hW.1 28
  have b_vi : (0 : Int) ≤ vi ∧ vi ≤ 202 := e_vi ▸ hW.1 29
  have b_le : (0 : Int) ≤ le ∧ le ≤ 3000 := e_le ▸ hW.2 4 _
  have b_op0 : (-2147483648 : Int) ≤ op0 ∧ op0 ≤ 2147483647 := e_op0 ▸ hW.1 15
  have z_tk0 := tz_f tk0
  have b_tk0 : (0 : Int) ≤ tk0 ∧ tk0 ≤ 5 := e_tk0 ▸ hW.1 11
  intro L Gx Ax n at1 tk1 fk1 nd1 op1 sy1 na1 sa1 ka1 gL_0 gL_1 gL_2 hWx hFx hPx hSx hVx ex_at1 ex_tk1 ex_fk1 ex_nd1 ex_op1 ex_sy1 ex_na1 ex_sa1 ex_ka1 fx_9 fx_29 rx_n iv_0 iv_1 iv_2 iv_3 iv_4 iv_5 iv_6 iv_7 iv_8 iv_9 iv_10 iv_11 iv_12
  have b_at1 : (0 : Int) ≤ at1 ∧ at1 ≤ 3002 := ex_at1 ▸ hWx.1 10
  have z_tk1 := tz_f tk1
  have b_tk1 : (0 : Int) ≤ tk1 ∧ tk1 ≤ 5 := ex_tk1 ▸ hWx.1 11
  have b_fk1 : (0 : Int) ≤ fk1 ∧ fk1 ≤ 6 := ex_fk1 ▸ hWx.1 16
  have b_nd1 : (0 : Int) ≤ nd1 ∧ nd1 ≤ 6999 := ex_nd1 ▸ hWx.1 31
  have b_op1 : (-2147483648 : Int) ≤ op1 ∧ op1 ≤ 2147483647 := ex_op1 ▸ hWx.1 15
  have b_sy1 : (0 : Int) ≤ sy1 ∧ sy1 ≤ 202 := ex_sy1 ▸ hWx.1 19
  have b_na1 : (0 : Int) ≤ na1 ∧ na1 ≤ 200 := ex_na1 ▸ hWx.1 28
  refine jx_ld (pc' := 87) (l' := L) (st' := [.ref 66]) rfl (jl_aloadn gL_0) ?_
  refine jx_ld (pc' := 88) (l' := L) (st' := [.ref 66, .ref 66]) rfl (jl_aloadn gL_0) ?_
  refine jx_ar (pc' := 90) (st' := [.int (i32 (61)), .ref 66, .ref 66]) rfl rfl rfl rfl ?_
  have b509 : (-2147483648 : Int) ≤ Gx 13 ∧ Gx 13 ≤ 2147483647 := hWx.1 13
  refine jx_vr (pc' := 93) (as := [.int (i32 (61))]) (st := [.ref 66]) rfl rfl rfl rfl ⟨rfl, rfl, Nat.le_of_ble_eq_true rfl⟩ rfl rfl (c_is (dd := d) (hd := by omega) (hW := hWx) (k := 61) (tk := tk1) (e_tk := show Gx 11 = tk1 from (ex_tk1)) (tn := Gx 13) (e_tn := show Gx 13 = Gx 13 from rfl)  (h_k := ⟨(by decide), (by decide)⟩)  ) (fun o V' hq => ?_)
  obtain ⟨r510, rfl, rfl, b511, q512⟩ := hq
  refine .inr ⟨_, rfl, ?_⟩
  rcases q512 with ⟨rfl, a513, a514, a515⟩ | rfl
  · have _q : True := trivial
    refine jx_vr (pc' := 96) (as := [.int (i32 (1))]) (st := []) rfl rfl rfl rfl ⟨rfl, rfl, Nat.le_of_ble_eq_true rfl⟩ rfl rfl (c_need (dd := d) (hd := by omega) (hW := hWx) (g := 1) (ln := ln) (e_ln := show Gx 9 = ln from (fx_9)) (le := le) (e_le := show Ax 4 (ln).toNat = le from (congrFun (hFx.2 4 rfl) _).trans (e_le)) (at0 := at1) (e_at0 := show Gx 10 = at1 from (ex_at1)) (fk := fk1) (e_fk := show Gx 16 = fk1 from (ex_fk1)) (tk0 := tk1) (e_tk0 := show Gx 11 = tk1 from (ex_tk1))  (h_g := ⟨(by decide), (by decide)⟩)  (p_0 := by omega)) (fun o V' hq => ?_)
    obtain ⟨G516, A517, at2_518, tk2_519, fk2_520, rfl, rfl, hW521, hF522, e523, e524, e525, p526, p527, q528⟩ := hq
    have hF529 := Fr_tr hFx hF522 (Fr_sub (by decide)) (Fr_sub (by decide))
    have hP530 := Pf_f hPx hF522 (by decide)
    have hS531 := Fx_f hSx hF522 (by decide)
    have hV532 := Fx_f hVx hF522 (by decide)
    have sf533 : ND A517 (n) (27) (sa1) (0) (0) (0) (0) (0) := ND_ag (by omega) (Ag_fr hF522 (by decide)) iv_12
    have bat2_518 : (0 : Int) ≤ at2_518 ∧ at2_518 ≤ 3002 := e523 ▸ hW521.1 10
    have ztk2_519 := tz_b tk2_519
    have btk2_519 : (0 : Int) ≤ tk2_519 ∧ tk2_519 ≤ 5 := e524 ▸ hW521.1 11
    have bfk2_520 : (0 : Int) ≤ fk2_520 ∧ fk2_520 ≤ 6 := e525 ▸ hW521.1 16
    refine .inl ⟨rfl, ?_⟩
    rcases q528 with ⟨a534, a535, a536, a537⟩ | ⟨a538, a539, a540, a541⟩
    · have _q : True := trivial
      have z542 := tz_f (tk2_519)
      exact c_readSeq_at_96p (X := X) (k := k) (hP := hP) (d := d) (Vs := Vs) (sb := sb) (pb := pb) (hvb := hvb) (c0 := c0) (c1 := c1) (G := G) (A := A) (T := T) (lv := lv) (ln := ln) (li := li) (at0 := at0) (fk := fk) (nd := nd) (sy := sy) (na := na) (vi := vi) (le := le) (op0 := op0) (tk0 := tk0) (hd := hd) (hW := hW) (e_ln := e_ln) (e_li := e_li) (e_at0 := e_at0) (e_fk := e_fk) (e_nd := e_nd) (e_sy := e_sy) (e_na := e_na) (e_vi := e_vi) (e_le := e_le) (e_op0 := e_op0) (e_tk0 := e_tk0) (i_LT := i_LT) (i_SV := i_SV) (i_PQ := i_PQ) (h_lv := h_lv) (p_0 := p_0) (p_1 := p_1) (p_2 := p_2) (p_3 := p_3) (p_4 := p_4) (p_5 := p_5) (p_6 := p_6) (p_7 := p_7) (p_8 := p_8) (p_9 := p_9) (p_10 := p_10) L G516 A517 (n) (at2_518) (tk2_519) (fk2_520) (nd1) (op1) (sy1) (na1) gL_0 gL_1 gL_2 hW521 hF529 hP530 hS531 hV532 ((e523)) ((e524)) ((e525)) (((hF522.1 31 rfl).trans (ex_nd1))) (((hF522.1 15 rfl).trans (ex_op1))) (((hF522.1 19 rfl).trans (ex_sy1))) (((hF522.1 28 rfl).trans (ex_na1))) (((hF522.1 9 rfl).trans (fx_9))) (((hF522.1 29 rfl).trans (fx_29))) (by omega) (by omega) (by omega) (by omega) (by omega) (by omega) (by omega) (by omega) (by omega)
    · have _q : True := trivial
      have z543 := tz_f (tk2_519)
      exact c_readSeq_at_96 (X := X) (k := k) (hP := hP) (d := d) (Vs := Vs) (sb := sb) (pb := pb) (hvb := hvb) (c0 := c0) (c1 := c1) (G := G) (A := A) (T := T) (lv := lv) (ln := ln) (li := li) (at0 := at0) (fk := fk) (nd := nd) (sy := sy) (na := na) (vi := vi) (le := le) (op0 := op0) (tk0 := tk0) (hd := hd) (hW := hW) (e_ln := e_ln) (e_li := e_li) (e_at0 := e_at0) (e_fk := e_fk) (e_nd := e_nd) (e_sy := e_sy) (e_na := e_na) (e_vi := e_vi) (e_le := e_le) (e_op0 := e_op0) (e_tk0 := e_tk0) (i_LT := i_LT) (i_SV := i_SV) (i_PQ := i_PQ) (h_lv := h_lv) (p_0 := p_0) (p_1 := p_1) (p_2 := p_2) (p_3 := p_3) (p_4 := p_4) (p_5 := p_5) (p_6 := p_6) (p_7 := p_7) (p_8 := p_8) (p_9 := p_9) (p_10 := p_10) L G516 A517 (n) (at2_518) (tk2_519) (fk2_520) (nd1) (op1) (sy1) (na1) (sa1) (ka1) gL_0 gL_1 gL_2 hW521 hF529 hP530 hS531 hV532 ((e523)) ((e524)) ((e525)) (((hF522.1 31 rfl).trans (ex_nd1))) (((hF522.1 15 rfl).trans (ex_op1))) (((hF522.1 19 rfl).trans (ex_sy1))) (((hF522.1 28 rfl).trans (ex_na1))) ((congrFun (hF522.2 17 rfl) _).trans (ex_sa1)) ((congrFun (hF522.2 7 rfl) _).trans (ex_ka1)) (((hF522.1 9 rfl).trans (fx_9))) (((hF522.1 29 rfl).trans (fx_29))) (by omega) (by omega) (by omega) (by omega) (by omega) (by omega) (by omega) (by omega) (by omega) (by omega) (by omega) (by omega) (by omega) (sf533)
  · have _q : True := trivial
    refine jx_vr (pc' := 96) (as := [.int (i32 (0))]) (st := []) rfl rfl rfl rfl ⟨rfl, rfl, Nat.le_of_ble_eq_true rfl⟩ rfl rfl (c_need (dd := d) (hd := by omega) (hW := hWx) (g := 0) (ln := ln) (e_ln := show Gx 9 = ln from (fx_9)) (le := le) (e_le := show Ax 4 (ln).toNat = le from (congrFun (hFx.2 4 rfl) _).trans (e_le)) (at0 := at1) (e_at0 := show Gx 10 = at1 from (ex_at1)) (fk := fk1) (e_fk := show Gx 16 = fk1 from (ex_fk1)) (tk0 := tk1) (e_tk0 := show Gx 11 = tk1 from (ex_tk1))  (h_g := ⟨(by decide), (by decide)⟩)  (p_0 := by omega)) (fun o V' hq => ?_)
    obtain ⟨G544, A545, at2_546, tk2_547, fk2_548, rfl, rfl, hW549, hF550, e551, e552, e553, p554, p555, q556⟩ := hq
    have hF557 := Fr_tr hFx hF550 (Fr_sub (by decide)) (Fr_sub (by decide))
    have hP558 := Pf_f hPx hF550 (by decide)
    have hS559 := Fx_f hSx hF550 (by decide)
    have hV560 := Fx_f hVx hF550 (by decide)
    have sf561 : ND A545 (n) (27) (sa1) (0) (0) (0) (0) (0) := ND_ag (by omega) (Ag_fr hF550 (by decide)) iv_12
    have bat2_546 : (0 : Int) ≤ at2_546 ∧ at2_546 ≤ 3002 := e551 ▸ hW549.1 10
    have ztk2_547 := tz_b tk2_547
    have btk2_547 : (0 : Int) ≤ tk2_547 ∧ tk2_547 ≤ 5 := e552 ▸ hW549.1 11
    have bfk2_548 : (0 : Int) ≤ fk2_548 ∧ fk2_548 ≤ 6 := e553 ▸ hW549.1 16
    refine .inl ⟨rfl, ?_⟩
    rcases q556 with ⟨a562, a563, a564, a565⟩ | ⟨a566, a567, a568, a569⟩
    · have _q : True := trivial
      have z570 := tz_f (tk2_547)
      exact c_readSeq_at_96p (X := X) (k := k) (hP := hP) (d := d) (Vs := Vs) (sb := sb) (pb := pb) (hvb := hvb) (c0 := c0) (c1 := c1) (G := G) (A := A) (T := T) (lv := lv) (ln := ln) (li := li) (at0 := at0) (fk := fk) (nd := nd) (sy := sy) (na := na) (vi := vi) (le := le) (op0 := op0) (tk0 := tk0) (hd := hd) (hW := hW) (e_ln := e_ln) (e_li := e_li) (e_at0 := e_at0) (e_fk := e_fk) (e_nd := e_nd) (e_sy := e_sy) (e_na := e_na) (e_vi := e_vi) (e_le := e_le) (e_op0 := e_op0) (e_tk0 := e_tk0) (i_LT := i_LT) (i_SV := i_SV) (i_PQ := i_PQ) (h_lv := h_lv) (p_0 := p_0) (p_1 := p_1) (p_2 := p_2) (p_3 := p_3) (p_4 := p_4) (p_5 := p_5) (p_6 := p_6) (p_7 := p_7) (p_8 := p_8) (p_9 := p_9) (p_10 := p_10) L G544 A545 (n) (at2_546) (tk2_547) (fk2_548) (nd1) (op1) (sy1) (na1) gL_0 gL_1 gL_2 hW549 hF557 hP558 hS559 hV560 ((e551)) ((e552)) ((e553)) (((hF550.1 31 rfl).trans (ex_nd1))) (((hF550.1 15 rfl).trans (ex_op1))) (((hF550.1 19 rfl).trans (ex_sy1))) (((hF550.1 28 rfl).trans (ex_na1))) (((hF550.1 9 rfl).trans (fx_9))) (((hF550.1 29 rfl).trans (fx_29))) (by omega) (by omega) (by omega) (by omega) (by omega) (by omega) (by omega) (by omega) (by omega)
    · have _q : True := trivial
      exfalso
      omega
set_option maxRecDepth 20000 in
set_option maxHeartbeats 4000000 in
theorem c_readSeq {X : jX} {k : Nat} (hP : RP X k) {dd : Nat} {Vs : Nat → Prop} {sb pb : Int} (hvb : VB Vs sb) {c0 c1 : jC} {G : Nat → Int} {A : Nat → Nat → Int} {T : jH} {lv : Int} {ln li at0 fk nd sy na vi le op0 tk0 : Int} (hd : 8 * k + 82 ≤ dd) (hW : Wk G A) (e_ln : G 9 = ln) (e_li : G 3 = li) (e_at0 : G 10 = at0) (e_fk : G 16 = fk) (e_nd : G 31 = nd) (e_sy : G 19 = sy) (e_na : G 28 = na) (e_vi : G 29 = vi) (e_le : A 4 (ln).toNat = le) (e_op0 : G 15 = op0) (e_tk0 : G 11 = tk0) (i_LT : LT G A) (i_SV : SV Vs sb G A) (i_PQ : PQ Vs sb pb G A) (h_lv : (-2147483648 : Int) ≤ lv ∧ lv ≤ 2147483647) (p_0 : 0 ≤ lv ∧ lv ≤ 15) (p_1 : 18 - lv ≤ ((k + 1 : Nat) : Int)) (p_2 : fk = 0) (p_3 : ln < li) (p_4 : at0 ≤ le) (p_5 : op0 = 0) (p_6 : nd ≤ 2 * at0 - tz tk0 + 30) (p_7 : sy ≤ na + 2) (p_8 : vi ≤ sy) (p_9 : sb = sy) (p_10 : 1 ≤ tk0) : wk X dd 297 [.ref 66, .int (i32 lv)] (rV c0 c1 G A T) (fun o V' => ∃ (G' : Nat → Int) (A' : Nat → Nat → Int) (r : Int) (ln2 : Int) (at2 : Int) (fk2 : Int) (nd2 : Int) (sy2 : Int) (na2 : Int) (vi2 : Int) (lf2 : Int), V' = rV c0 c1 G' A' T ∧ o = .inl (some (.int (i32 r))) ∧ Wk G' A' ∧ Fr [9, 10, 11, 12, 13, 14, 15, 16, 17, 18, 19, 28, 29, 31] [6, 7, 8, 9, 10, 11, 12, 14, 15, 16, 17, 18, 19, 20, 21, 22, 23, 24, 28] G A G' A' ∧ Pf nd A A' ∧ Fx sr (sy) A A' ∧ Fx [14] (vi) A A' ∧ ((-2147483648 : Int) ≤ r ∧ r ≤ 2147483647) ∧ G' 9 = ln2 ∧ G' 10 = at2 ∧ G' 16 = fk2 ∧ G' 31 = nd2 ∧ G' 19 = sy2 ∧ G' 28 = na2 ∧ G' 29 = vi2 ∧ A' 3 (ln2).toNat = lf2 ∧ (at0 ≤ at2) ∧ (nd ≤ nd2) ∧ (sy ≤ sy2) ∧ (sy2 ≤ na2 + 2) ∧ (vi ≤ vi2) ∧ (vi2 ≤ vi + 1) ∧ (0 ≤ r) ∧ (r ≤ 6999) ∧ (ln ≤ ln2) ∧ (ln2 ≤ li) ∧ (((1 ≤ fk2) ∧ (nd2 - nd ≤ 2 * at2 - (2 * at0 - tz tk0) + 14)) ∨ ((fk2 = 0) ∧ (vi2 = vi) ∧ (ln < ln2) ∧ (nd2 - nd ≤ 2 * at2 - (2 * at0 - tz tk0)) ∧ (at2 < lf2 ∨ li ≤ ln2) ∧ (nd ≤ r) ∧ (r < nd2) ∧ (wSt A' (sy2) pb (wP A' (sy2) pb (k)) (Vs) (r) (nd) (nd2) (sy) (sy2)) ∧ (NX A' (r))))) := by
  obtain ⟨d, rfl⟩ : ∃ d, dd = d + 1 := ⟨dd - 1, by omega⟩
  refine wk_of (e := jm297) rfl (Nat.le_of_ble_eq_true rfl) ?_
  show wj X d jm297 (0, [(0, .ref 66), (1, .int (i32 (lv)))], [], rV c0 c1 G A T) _
  have hF0 : Fr [9, 10, 11, 12, 13, 14, 15, 16, 17, 18, 19, 28, 29, 31] [6, 7, 8, 9, 10, 11, 12, 14, 15, 16, 17, 18, 19, 20, 21, 22, 23, 24, 28] G A G A := Fr_rf
  have hP0 : Pf nd A A := Pf_rf
  have hS0 : Fx sr (sy) A A := Fx_rf
  have hV0 : Fx [14] (vi) A A := Fx_rf
  have b_ln : (0 : Int) ≤ ln ∧ ln ≤ 3000 := e_ln ▸ hW.1 9
  have b_li : (0 : Int) ≤ li ∧ li ≤ 3000 := e_li ▸ hW.1 3
  have b_at0 : (0 : Int) ≤ at0 ∧ at0 ≤ 3002 := e_at0 ▸ hW.1 10
  have b_fk : (0 : Int) ≤ fk ∧ fk ≤ 6 := e_fk ▸ hW.1 16
  have b_nd : (0 : Int) ≤ nd ∧ nd ≤ 6999 := e_nd ▸ hW.1 31
  have b_sy : (0 : Int) ≤ sy ∧ sy ≤ 202 := e_sy ▸ hW.1 19
  have b_na : (0 : Int) ≤ na ∧ na ≤ 200 := e_na ▸ hW.1 28
  have b_vi : (0 : Int) ≤ vi ∧ vi ≤ 202 := e_vi ▸ hW.1 29
  have b_le : (0 : Int) ≤ le ∧ le ≤ 3000 := e_le ▸ hW.2 4 _
  have b_op0 : (-2147483648 : Int) ≤ op0 ∧ op0 ≤ 2147483647 := e_op0 ▸ hW.1 15
  have z_tk0 := tz_f tk0
  have b_tk0 : (0 : Int) ≤ tk0 ∧ tk0 ≤ 5 := e_tk0 ▸ hW.1 11
  refine jx_ld (pc' := 1) (l' := [(0, .ref 66), (1, .int (i32 (lv)))]) (st' := [.ref 66]) rfl (jl_aloadn rfl) ?_
  refine jx_vr (pc' := 4) (as := []) (st := []) rfl rfl rfl rfl ⟨rfl, rfl, Nat.le_of_ble_eq_true rfl⟩ rfl rfl (c_next (dd := d) (hd := by omega) (hW := hW)  (ln := ln) (e_ln := show G 9 = ln from (e_ln)) (le := le) (e_le := show A 4 (ln).toNat = le from (e_le)) (at0 := at0) (e_at0 := show G 10 = at0 from (e_at0))    (p_0 := by omega)) (fun o V' hq => ?_)
  obtain ⟨G571, A572, at2_573, tk2_574, rfl, rfl, hW575, hF576, e577, e578, p579, p580, p581, -⟩ := hq
  have hF583 := Fr_tr hF0 hF576 (Fr_sub (by decide)) (Fr_sub (by decide))
  have hP584 := Pf_f hP0 hF576 (by decide)
  have hS585 := Fx_f hS0 hF576 (by decide)
  have hV586 := Fx_f hV0 hF576 (by decide)
  have bat2_573 : (0 : Int) ≤ at2_573 ∧ at2_573 ≤ 3002 := e577 ▸ hW575.1 10
  have ztk2_574 := tz_b tk2_574
  have btk2_574 : (0 : Int) ≤ tk2_574 ∧ tk2_574 ≤ 5 := e578 ▸ hW575.1 11
  refine .inl ⟨rfl, ?_⟩
  refine jx_ld (pc' := 5) (l' := [(0, .ref 66), (1, .int (i32 (lv)))]) (st' := [.ref 66]) rfl (jl_aloadn rfl) ?_
  have z587 := tz_f (tk2_574)
  refine jr_get (pc' := 8) (i := 11) (v := .int (i32 (tk2_574))) rfl rfl (by decide) (rFv_eq (by decide) (show G571 11 = tk2_574 from (e578))) rfl ?_
  refine jx_if_ne (pc' := 11) (tg := 38) rfl rfl rfl (Int.le_trans (by decide : (-2147483648 : Int) ≤ 0) btk2_574.1) (Int.le_trans btk2_574.2 (by decide : (5 : Int) ≤ 2147483647)) (fun h588 => ?_) (fun h588 => ?_)
  · have _q := h588
    refine jx_ld (pc' := 39) (l' := [(0, .ref 66), (1, .int (i32 (lv)))]) (st' := [.ref 66]) rfl (jl_aloadn rfl) ?_
    have z589 := tz_f (tk2_574)
    refine jr_get (pc' := 42) (i := 11) (v := .int (i32 (tk2_574))) rfl rfl (by decide) (rFv_eq (by decide) (show G571 11 = tk2_574 from (e578))) rfl ?_
    refine jx_ar (pc' := 43) (st' := [.int (i32 (1)), .int (i32 (tk2_574))]) rfl rfl rfl rfl ?_
    refine jx_icmp_eq (pc' := 46) (tg := 57) rfl rfl rfl (Int.le_trans (by decide : (-2147483648 : Int) ≤ 0) btk2_574.1) (Int.le_trans btk2_574.2 (by decide : (5 : Int) ≤ 2147483647)) (by decide) (by decide) (fun h590 => ?_) (fun h590 => ?_)
    · have _q := h590
      refine jx_ld (pc' := 58) (l' := [(0, .ref 66), (1, .int (i32 (lv)))]) (st' := [.ref 66]) rfl (jl_aloadn rfl) ?_
      refine jx_ar (pc' := 60) (st' := [.int (i32 (27)), .ref 66]) rfl rfl rfl rfl ?_
      refine jx_ar (pc' := 61) (st' := [.int (i32 (0)), .int (i32 (27)), .ref 66]) rfl rfl rfl rfl ?_
      refine jx_ar (pc' := 62) (st' := [.int (i32 (0)), .int (i32 (0)), .int (i32 (27)), .ref 66]) rfl rfl rfl rfl ?_
      refine jx_ar (pc' := 63) (st' := [.int (i32 (0)), .int (i32 (0)), .int (i32 (0)), .int (i32 (27)), .ref 66]) rfl rfl rfl rfl ?_
      refine jx_ar (pc' := 64) (st' := [.int (i32 (0)), .int (i32 (0)), .int (i32 (0)), .int (i32 (0)), .int (i32 (27)), .ref 66]) rfl rfl rfl rfl ?_
      refine jx_vr (pc' := 67) (as := [.int (i32 (27)), .int (i32 (0)), .int (i32 (0)), .int (i32 (0)), .int (i32 (0))]) (st := []) rfl rfl rfl rfl ⟨rfl, rfl, Nat.le_of_ble_eq_true rfl⟩ rfl rfl (c_node (dd := d) (hd := by omega) (hW := hW575) (kind := 27) (a := 0) (b := 0) (c := 0) (e := 0) (nd := nd) (e_nd := show G571 31 = nd from ((hF576.1 31 rfl).trans (e_nd)))  (h_kind := ⟨(by decide), (by decide)⟩) (h_a := ⟨(by decide), (by decide)⟩) (h_b := ⟨(by decide), (by decide)⟩) (h_c := ⟨(by decide), (by decide)⟩) (h_e := ⟨(by decide), (by decide)⟩)  (p_0 := by omega) (p_1 := by omega)) (fun o V' hq => ?_)
      obtain ⟨G591, A592, nd2_593, rfl, rfl, hW594, hF595, hQ596, e597, p598, p599, -⟩ := hq
      have hF601 := Fr_tr hF583 hF595 (Fr_sub (by decide)) (Fr_sub (by decide))
      have hP602 := Pf_tr hP584 hQ596 (by omega)
      have hS603 := Fx_f hS585 hF595 (by decide)
      have hV604 := Fx_f hV586 hF595 (by decide)
      have bnd2_593 : (0 : Int) ≤ nd2_593 ∧ nd2_593 ≤ 6999 := e597 ▸ hW594.1 31
      refine .inr ⟨_, rfl, ?_⟩
      refine jx_ld (pc' := 68) (l' := jSto1 [(0, .ref 66), (1, .int (i32 (lv)))] 2 (.int (i32 (nd)))) (st' := []) rfl rfl ?_
      obtain ⟨L605, eL605⟩ : ∃ q, q = jSto1 [(0, .ref 66), (1, .int (i32 (lv)))] 2 (.int (i32 (nd))) := ⟨_, rfl⟩
      rw [← eL605]
      have gL605_0 : jGet L605 0 = some (.ref 66) := eL605 ▸ jg_ne (by decide) (rfl : jGet [(0, .ref 66), (1, .int (i32 (lv)))] 0 = some (.ref 66)) rfl
      have gL605_1 : jGet L605 1 = some (.int (i32 (lv))) := eL605 ▸ jg_ne (by decide) (rfl : jGet [(0, .ref 66), (1, .int (i32 (lv)))] 1 = some (.int (i32 (lv)))) rfl
      have gL605_2 : jGet L605 2 = some (.int (i32 (nd))) := eL605 ▸ jg_eq
      refine jx_ld (pc' := 69) (l' := L605) (st' := [.ref 66]) rfl (jl_aloadn gL605_0) ?_
      refine jr_get (pc' := 72) (i := 34) (v := .ref 84) rfl rfl (by decide) rfl rfl ?_
      refine jx_ld (pc' := 73) (l' := L605) (st' := [.int (i32 (nd)), .ref 84]) rfl (jl_iloadn gL605_2) ?_
      refine jx_ld (pc' := 74) (l' := L605) (st' := [.ref 66, .int (i32 (nd)), .ref 84]) rfl (jl_aloadn gL605_0) ?_
      refine jx_ar (pc' := 76) (st' := [.int (i32 (9)), .ref 66, .int (i32 (nd)), .ref 84]) rfl rfl rfl rfl ?_
      refine jx_ar (pc' := 77) (st' := [.int (i32 (2)), .int (i32 (9)), .ref 66, .int (i32 (nd)), .ref 84]) rfl rfl rfl rfl ?_
      refine jx_vr (pc' := 80) (as := [.int (i32 (9)), .int (i32 (2))]) (st := [.int (i32 (nd)), .ref 84]) rfl rfl rfl rfl ⟨rfl, rfl, Nat.le_of_ble_eq_true rfl⟩ rfl rfl (c_newName (dd := d) (hd := by omega) (hW := hW594) (kind := 9) (many := 2) (sy := sy) (e_sy := show G591 19 = sy from ((hF595.1 19 rfl).trans ((hF576.1 19 rfl).trans (e_sy)))) (na := na) (e_na := show G591 28 = na from ((hF595.1 28 rfl).trans ((hF576.1 28 rfl).trans (e_na)))) (fk := fk) (e_fk := show G591 16 = fk from ((hF595.1 16 rfl).trans ((hF576.1 16 rfl).trans (e_fk))))  (h_kind := ⟨(by decide), (by decide)⟩) (h_many := ⟨(by decide), (by decide)⟩)  (p_0 := by omega) (p_1 := by omega)) (fun o V' hq => ?_)
      obtain ⟨G606, A607, r608, sy2_609, na2_610, fk2_611, yk2_612, rfl, rfl, hW613, hF614, hQ615, b616, e617, e618, e619, e620, q621⟩ := hq
      have hF622 := Fr_tr hF601 hF614 (Fr_sub (by decide)) (Fr_sub (by decide))
      have hP623 := Pf_f hP602 hF614 (by decide)
      have hS624 := Fx_tr hS603 hQ615 (by omega)
      have hV625 := Fx_f hV604 hF614 (by decide)
      have sf626 : ND A607 (nd) (27) (0) (0) (0) (0) (0) (0) := ND_ag (by omega) (Ag_fr hF614 (by decide)) p599
      have bsy2_609 : (0 : Int) ≤ sy2_609 ∧ sy2_609 ≤ 202 := e617 ▸ hW613.1 19
      have bna2_610 : (0 : Int) ≤ na2_610 ∧ na2_610 ≤ 200 := e618 ▸ hW613.1 28
      have bfk2_611 : (0 : Int) ≤ fk2_611 ∧ fk2_611 ≤ 6 := e619 ▸ hW613.1 16
      have byk2_612 : (0 : Int) ≤ yk2_612 ∧ yk2_612 ≤ 14 := e620 ▸ hW613.2 7 _
      refine .inr ⟨_, rfl, ?_⟩
      rcases q621 with ⟨a633, a627, a628, a629, a630, a631, a632⟩ | ⟨rfl, a634, a635, a636⟩
      · have _q : True := trivial
        rw [a633]
        refine jr_st (pc' := 81) (i := 17) (m := 7000) (z := nd) (y := sy) rfl (by decide) rfl (by decide) (by omega) (by omega) rfl ?_
        have hW638 : Wk G606 (uA A607 17 (nd).toNat (sy)) := Wk_a hW613 (show (-2147483648 : Int) ≤ sy by omega) (show sy ≤ (2147483647 : Int) by omega)
        have hF639 := Fr_a (z := sy) (k := 17) (n := (nd).toNat) hF622 (by decide)
        obtain ⟨A637, eA637⟩ : ∃ q, q = uA A607 17 (nd).toNat (sy) := ⟨_, rfl⟩
        rw [← eA637]
        rw [← eA637] at hW638 hF639
        have q640 : A637 17 (nd).toNat = sy := by rw [eA637]; exact uA_eq
        have hP641 : Pf nd A A637 := eA637 ▸ Pf_a hP623 (z := nd) (by omega) (by omega)
        have hS642 : Fx sr (sy) A A637 := eA637 ▸ Fx_n hS624 rfl
        have hV643 : Fx [14] (vi) A A637 := eA637 ▸ Fx_n hV625 rfl
        have sf644 : ND A637 (nd) (27) (sy) (0) (0) (0) (0) (0) := ND_a eA637 sf626
        have sf645 : YD A637 (sy) (9) (2) := YD_fx (by omega) (by omega) (Sg_ne (sb := sy + 1) eA637 rfl) a632
        refine jx_ld (pc' := 82) (l' := L605) (st' := [.ref 66]) rfl (jl_aloadn gL605_0) ?_
        refine jx_ar (pc' := 83) (st' := [.int (i32 (1)), .ref 66]) rfl rfl rfl rfl ?_
        refine jx_vr (pc' := 86) (as := [.int (i32 (1))]) (st := []) rfl rfl rfl rfl ⟨rfl, rfl, Nat.le_of_ble_eq_true rfl⟩ rfl rfl (c_need (dd := d) (hd := by omega) (hW := hW638) (g := 1) (ln := ln) (e_ln := show G606 9 = ln from ((hF614.1 9 rfl).trans ((hF595.1 9 rfl).trans ((hF576.1 9 rfl).trans (e_ln))))) (le := le) (e_le := show A637 4 (ln).toNat = le from (congrFun (((congrFun eA637 4).trans (uA_ne (by decide))).trans ((hF614.2 4 rfl).trans ((hF595.2 4 rfl).trans (hF576.2 4 rfl)))) _).trans (e_le)) (at0 := at2_573) (e_at0 := show G606 10 = at2_573 from ((hF614.1 10 rfl).trans ((hF595.1 10 rfl).trans (e577)))) (fk := fk2_611) (e_fk := show G606 16 = fk2_611 from (e619)) (tk0 := tk2_574) (e_tk0 := show G606 11 = tk2_574 from ((hF614.1 11 rfl).trans ((hF595.1 11 rfl).trans (e578))))  (h_g := ⟨(by decide), (by decide)⟩)  (p_0 := by omega)) (fun o V' hq => ?_)
        obtain ⟨G646, A647, at2_648, tk2_649, fk2_650, rfl, rfl, hW651, hF652, e653, e654, e655, p656, p657, q658⟩ := hq
        have hF659 := Fr_tr hF639 hF652 (Fr_sub (by decide)) (Fr_sub (by decide))
        have hP660 := Pf_f hP641 hF652 (by decide)
        have hS661 := Fx_f hS642 hF652 (by decide)
        have hV662 := Fx_f hV643 hF652 (by decide)
        have sf663 : ND A647 (nd) (27) (sy) (0) (0) (0) (0) (0) := ND_ag (by omega) (Ag_fr hF652 (by decide)) sf644
        have sf664 : YD A647 (sy) (9) (2) := YD_fx (by omega) (by omega) (Sg_fr (sb := sy + 1) hF652 (by decide)) sf645
        have bat2_648 : (0 : Int) ≤ at2_648 ∧ at2_648 ≤ 3002 := e653 ▸ hW651.1 10
        have ztk2_649 := tz_b tk2_649
        have btk2_649 : (0 : Int) ≤ tk2_649 ∧ tk2_649 ≤ 5 := e654 ▸ hW651.1 11
        have bfk2_650 : (0 : Int) ≤ fk2_650 ∧ fk2_650 ≤ 6 := e655 ▸ hW651.1 16
        refine .inl ⟨rfl, ?_⟩
        rcases q658 with ⟨a665, a666, a667, a668⟩ | ⟨a669, a670, a671, a672⟩
        · have _q : True := trivial
          have z673 := tz_f (tk2_649)
          exact c_readSeq_at_86p (X := X) (k := k) (hP := hP) (d := d) (Vs := Vs) (sb := sb) (pb := pb) (hvb := hvb) (c0 := c0) (c1 := c1) (G := G) (A := A) (T := T) (lv := lv) (ln := ln) (li := li) (at0 := at0) (fk := fk) (nd := nd) (sy := sy) (na := na) (vi := vi) (le := le) (op0 := op0) (tk0 := tk0) (hd := hd) (hW := hW) (e_ln := e_ln) (e_li := e_li) (e_at0 := e_at0) (e_fk := e_fk) (e_nd := e_nd) (e_sy := e_sy) (e_na := e_na) (e_vi := e_vi) (e_le := e_le) (e_op0 := e_op0) (e_tk0 := e_tk0) (i_LT := i_LT) (i_SV := i_SV) (i_PQ := i_PQ) (h_lv := h_lv) (p_0 := p_0) (p_1 := p_1) (p_2 := p_2) (p_3 := p_3) (p_4 := p_4) (p_5 := p_5) (p_6 := p_6) (p_7 := p_7) (p_8 := p_8) (p_9 := p_9) (p_10 := p_10) L605 G646 A647 (nd) (at2_648) (tk2_649) (fk2_650) (nd2_593) (op0) (sy2_609) (na2_610) gL605_0 gL605_1 gL605_2 hW651 hF659 hP660 hS661 hV662 ((e653)) ((e654)) ((e655)) (((hF652.1 31 rfl).trans ((hF614.1 31 rfl).trans (e597)))) (((hF652.1 15 rfl).trans ((hF614.1 15 rfl).trans ((hF595.1 15 rfl).trans ((hF576.1 15 rfl).trans (e_op0)))))) (((hF652.1 19 rfl).trans (e617))) (((hF652.1 28 rfl).trans (e618))) (((hF652.1 9 rfl).trans ((hF614.1 9 rfl).trans ((hF595.1 9 rfl).trans ((hF576.1 9 rfl).trans (e_ln)))))) (((hF652.1 29 rfl).trans ((hF614.1 29 rfl).trans ((hF595.1 29 rfl).trans ((hF576.1 29 rfl).trans (e_vi)))))) (by omega) (by omega) (by omega) (by omega) (by omega) (by omega) (by omega) (by omega) (by omega)
        · have _q : True := trivial
          have z674 := tz_f (tk2_649)
          exact c_readSeq_at_86 (X := X) (k := k) (hP := hP) (d := d) (Vs := Vs) (sb := sb) (pb := pb) (hvb := hvb) (c0 := c0) (c1 := c1) (G := G) (A := A) (T := T) (lv := lv) (ln := ln) (li := li) (at0 := at0) (fk := fk) (nd := nd) (sy := sy) (na := na) (vi := vi) (le := le) (op0 := op0) (tk0 := tk0) (hd := hd) (hW := hW) (e_ln := e_ln) (e_li := e_li) (e_at0 := e_at0) (e_fk := e_fk) (e_nd := e_nd) (e_sy := e_sy) (e_na := e_na) (e_vi := e_vi) (e_le := e_le) (e_op0 := e_op0) (e_tk0 := e_tk0) (i_LT := i_LT) (i_SV := i_SV) (i_PQ := i_PQ) (h_lv := h_lv) (p_0 := p_0) (p_1 := p_1) (p_2 := p_2) (p_3 := p_3) (p_4 := p_4) (p_5 := p_5) (p_6 := p_6) (p_7 := p_7) (p_8 := p_8) (p_9 := p_9) (p_10 := p_10) L605 G646 A647 (nd) (at2_648) (tk2_649) (fk2_650) (nd2_593) (op0) (sy2_609) (na2_610) (sy) (yk2_612) gL605_0 gL605_1 gL605_2 hW651 hF659 hP660 hS661 hV662 ((e653)) ((e654)) ((e655)) (((hF652.1 31 rfl).trans ((hF614.1 31 rfl).trans (e597)))) (((hF652.1 15 rfl).trans ((hF614.1 15 rfl).trans ((hF595.1 15 rfl).trans ((hF576.1 15 rfl).trans (e_op0)))))) (((hF652.1 19 rfl).trans (e617))) (((hF652.1 28 rfl).trans (e618))) ((congrFun (hF652.2 17 rfl) _).trans (q640)) ((congrFun ((hF652.2 7 rfl).trans ((congrFun eA637 7).trans (uA_ne (by decide)))) _).trans (e620)) (((hF652.1 9 rfl).trans ((hF614.1 9 rfl).trans ((hF595.1 9 rfl).trans ((hF576.1 9 rfl).trans (e_ln)))))) (((hF652.1 29 rfl).trans ((hF614.1 29 rfl).trans ((hF595.1 29 rfl).trans ((hF576.1 29 rfl).trans (e_vi)))))) (by omega) (by omega) (by omega) (by omega) (by omega) (by omega) (by omega) (by omega) (by omega) (by omega) (by omega) (by omega) (by omega) (sf663)
      · have _q : True := trivial
        refine jr_st (pc' := 81) (i := 17) (m := 7000) (z := nd) (y := 0) rfl (by decide) rfl (by decide) (by omega) (by omega) rfl ?_
        have hW676 : Wk G606 (uA A607 17 (nd).toNat (0)) := Wk_a hW613 (show (-2147483648 : Int) ≤ 0 by omega) (show 0 ≤ (2147483647 : Int) by omega)
        have hF677 := Fr_a (z := 0) (k := 17) (n := (nd).toNat) hF622 (by decide)
        obtain ⟨A675, eA675⟩ : ∃ q, q = uA A607 17 (nd).toNat (0) := ⟨_, rfl⟩
        rw [← eA675]
        rw [← eA675] at hW676 hF677
        have q678 : A675 17 (nd).toNat = 0 := by rw [eA675]; exact uA_eq
        have hP679 : Pf nd A A675 := eA675 ▸ Pf_a hP623 (z := nd) (by omega) (by omega)
        have hS680 : Fx sr (sy) A A675 := eA675 ▸ Fx_n hS624 rfl
        have hV681 : Fx [14] (vi) A A675 := eA675 ▸ Fx_n hV625 rfl
        have sf682 : ND A675 (nd) (27) (0) (0) (0) (0) (0) (0) := ND_a eA675 sf626
        refine jx_ld (pc' := 82) (l' := L605) (st' := [.ref 66]) rfl (jl_aloadn gL605_0) ?_
        refine jx_ar (pc' := 83) (st' := [.int (i32 (1)), .ref 66]) rfl rfl rfl rfl ?_
        refine jx_vr (pc' := 86) (as := [.int (i32 (1))]) (st := []) rfl rfl rfl rfl ⟨rfl, rfl, Nat.le_of_ble_eq_true rfl⟩ rfl rfl (c_need (dd := d) (hd := by omega) (hW := hW676) (g := 1) (ln := ln) (e_ln := show G606 9 = ln from ((hF614.1 9 rfl).trans ((hF595.1 9 rfl).trans ((hF576.1 9 rfl).trans (e_ln))))) (le := le) (e_le := show A675 4 (ln).toNat = le from (congrFun (((congrFun eA675 4).trans (uA_ne (by decide))).trans ((hF614.2 4 rfl).trans ((hF595.2 4 rfl).trans (hF576.2 4 rfl)))) _).trans (e_le)) (at0 := at2_573) (e_at0 := show G606 10 = at2_573 from ((hF614.1 10 rfl).trans ((hF595.1 10 rfl).trans (e577)))) (fk := fk2_611) (e_fk := show G606 16 = fk2_611 from (e619)) (tk0 := tk2_574) (e_tk0 := show G606 11 = tk2_574 from ((hF614.1 11 rfl).trans ((hF595.1 11 rfl).trans (e578))))  (h_g := ⟨(by decide), (by decide)⟩)  (p_0 := by omega)) (fun o V' hq => ?_)
        obtain ⟨G683, A684, at2_685, tk2_686, fk2_687, rfl, rfl, hW688, hF689, e690, e691, e692, p693, p694, q695⟩ := hq
        have hF696 := Fr_tr hF677 hF689 (Fr_sub (by decide)) (Fr_sub (by decide))
        have hP697 := Pf_f hP679 hF689 (by decide)
        have hS698 := Fx_f hS680 hF689 (by decide)
        have hV699 := Fx_f hV681 hF689 (by decide)
        have sf700 : ND A684 (nd) (27) (0) (0) (0) (0) (0) (0) := ND_ag (by omega) (Ag_fr hF689 (by decide)) sf682
        have bat2_685 : (0 : Int) ≤ at2_685 ∧ at2_685 ≤ 3002 := e690 ▸ hW688.1 10
        have ztk2_686 := tz_b tk2_686
        have btk2_686 : (0 : Int) ≤ tk2_686 ∧ tk2_686 ≤ 5 := e691 ▸ hW688.1 11
        have bfk2_687 : (0 : Int) ≤ fk2_687 ∧ fk2_687 ≤ 6 := e692 ▸ hW688.1 16
        refine .inl ⟨rfl, ?_⟩
        rcases q695 with ⟨a701, a702, a703, a704⟩ | ⟨a705, a706, a707, a708⟩
        · have _q : True := trivial
          have z709 := tz_f (tk2_686)
          exact c_readSeq_at_86p (X := X) (k := k) (hP := hP) (d := d) (Vs := Vs) (sb := sb) (pb := pb) (hvb := hvb) (c0 := c0) (c1 := c1) (G := G) (A := A) (T := T) (lv := lv) (ln := ln) (li := li) (at0 := at0) (fk := fk) (nd := nd) (sy := sy) (na := na) (vi := vi) (le := le) (op0 := op0) (tk0 := tk0) (hd := hd) (hW := hW) (e_ln := e_ln) (e_li := e_li) (e_at0 := e_at0) (e_fk := e_fk) (e_nd := e_nd) (e_sy := e_sy) (e_na := e_na) (e_vi := e_vi) (e_le := e_le) (e_op0 := e_op0) (e_tk0 := e_tk0) (i_LT := i_LT) (i_SV := i_SV) (i_PQ := i_PQ) (h_lv := h_lv) (p_0 := p_0) (p_1 := p_1) (p_2 := p_2) (p_3 := p_3) (p_4 := p_4) (p_5 := p_5) (p_6 := p_6) (p_7 := p_7) (p_8 := p_8) (p_9 := p_9) (p_10 := p_10) L605 G683 A684 (nd) (at2_685) (tk2_686) (fk2_687) (nd2_593) (op0) (sy2_609) (na2_610) gL605_0 gL605_1 gL605_2 hW688 hF696 hP697 hS698 hV699 ((e690)) ((e691)) ((e692)) (((hF689.1 31 rfl).trans ((hF614.1 31 rfl).trans (e597)))) (((hF689.1 15 rfl).trans ((hF614.1 15 rfl).trans ((hF595.1 15 rfl).trans ((hF576.1 15 rfl).trans (e_op0)))))) (((hF689.1 19 rfl).trans (e617))) (((hF689.1 28 rfl).trans (e618))) (((hF689.1 9 rfl).trans ((hF614.1 9 rfl).trans ((hF595.1 9 rfl).trans ((hF576.1 9 rfl).trans (e_ln)))))) (((hF689.1 29 rfl).trans ((hF614.1 29 rfl).trans ((hF595.1 29 rfl).trans ((hF576.1 29 rfl).trans (e_vi)))))) (by omega) (by omega) (by omega) (by omega) (by omega) (by omega) (by omega) (by omega) (by omega)
        · have _q : True := trivial
          exfalso
          omega
    · have _q := h590
      refine jx_ld (pc' := 47) (l' := [(0, .ref 66), (1, .int (i32 (lv)))]) (st' := [.ref 66]) rfl (jl_aloadn rfl) ?_
      refine jx_ar (pc' := 48) (st' := [.int (i32 (1)), .ref 66]) rfl rfl rfl rfl ?_
      refine jx_ld (pc' := 49) (l' := [(0, .ref 66), (1, .int (i32 (lv)))]) (st' := [.ref 66, .int (i32 (1)), .ref 66]) rfl (jl_aloadn rfl) ?_
      have b710 : (-3000 : Int) ≤ G571 12 ∧ G571 12 ≤ 3002 := hW575.1 12
      refine jr_get (pc' := 52) (i := 12) (v := .int (i32 (G571 12))) rfl rfl (by decide) rfl rfl ?_
      refine jx_vr (pc' := 55) (as := [.int (i32 (1)), .int (i32 (G571 12))]) (st := []) rfl rfl rfl rfl ⟨rfl, rfl, Nat.le_of_ble_eq_true rfl⟩ rfl rfl (c_fail (dd := d) (hd := by omega) (hW := hW575) (kind := 1) (place := G571 12) (fk := fk) (e_fk := show G571 16 = fk from ((hF576.1 16 rfl).trans (e_fk)))  (h_kind := ⟨(by decide), (by decide)⟩) (h_place := ⟨(Int.le_trans (by decide : (-2147483648 : Int) ≤ -3000) b710.1), (Int.le_trans b710.2 (by decide : (3002 : Int) ≤ 2147483647))⟩)  (p_0 := by omega) (p_1 := by omega)) (fun o V' hq => ?_)
      obtain ⟨G711, A712, fk2_713, rfl, rfl, hW714, hF715, e716, p717, -⟩ := hq
      have hF719 := Fr_tr hF583 hF715 (Fr_sub (by decide)) (Fr_sub (by decide))
      have hP720 := Pf_f hP584 hF715 (by decide)
      have hS721 := Fx_f hS585 hF715 (by decide)
      have hV722 := Fx_f hV586 hF715 (by decide)
      have bfk2_713 : (0 : Int) ≤ fk2_713 ∧ fk2_713 ≤ 6 := e716 ▸ hW714.1 16
      refine .inl ⟨rfl, ?_⟩
      refine jx_ar (pc' := 56) (st' := [.int (i32 (0))]) rfl rfl rfl rfl ?_
      refine jx_rt (v := some (.int (i32 (0)))) rfl rfl rfl rfl rfl rfl ?_
      exact ⟨_, _, _, ln, at2_573, fk2_713, nd, sy, na, vi, A 3 (ln).toNat, rfl, rfl, hW714, hF719, hP720, hS721, hV722, by omega, ((hF715.1 9 rfl).trans ((hF576.1 9 rfl).trans (e_ln))), ((hF715.1 10 rfl).trans (e577)), (e716), ((hF715.1 31 rfl).trans ((hF576.1 31 rfl).trans (e_nd))), ((hF715.1 19 rfl).trans ((hF576.1 19 rfl).trans (e_sy))), ((hF715.1 28 rfl).trans ((hF576.1 28 rfl).trans (e_na))), ((hF715.1 29 rfl).trans ((hF576.1 29 rfl).trans (e_vi))), (congrFun ((hF715.2 3 rfl).trans (hF576.2 3 rfl)) _), by omega, by omega, by omega, by omega, by omega, by omega, by omega, by omega, by omega, by omega, by first | exact Or.inl (⟨by omega, by omega⟩)⟩
  · have _q := h588
    refine jx_ld (pc' := 12) (l' := [(0, .ref 66), (1, .int (i32 (lv)))]) (st' := [.ref 66]) rfl (jl_aloadn rfl) ?_
    refine jx_ar (pc' := 14) (st' := [.int (i32 (26)), .ref 66]) rfl rfl rfl rfl ?_
    refine jx_ar (pc' := 15) (st' := [.int (i32 (0)), .int (i32 (26)), .ref 66]) rfl rfl rfl rfl ?_
    refine jx_ar (pc' := 16) (st' := [.int (i32 (0)), .int (i32 (0)), .int (i32 (26)), .ref 66]) rfl rfl rfl rfl ?_
    refine jx_ar (pc' := 17) (st' := [.int (i32 (0)), .int (i32 (0)), .int (i32 (0)), .int (i32 (26)), .ref 66]) rfl rfl rfl rfl ?_
    refine jx_ar (pc' := 18) (st' := [.int (i32 (0)), .int (i32 (0)), .int (i32 (0)), .int (i32 (0)), .int (i32 (26)), .ref 66]) rfl rfl rfl rfl ?_
    refine jx_vr (pc' := 21) (as := [.int (i32 (26)), .int (i32 (0)), .int (i32 (0)), .int (i32 (0)), .int (i32 (0))]) (st := []) rfl rfl rfl rfl ⟨rfl, rfl, Nat.le_of_ble_eq_true rfl⟩ rfl rfl (c_node (dd := d) (hd := by omega) (hW := hW575) (kind := 26) (a := 0) (b := 0) (c := 0) (e := 0) (nd := nd) (e_nd := show G571 31 = nd from ((hF576.1 31 rfl).trans (e_nd)))  (h_kind := ⟨(by decide), (by decide)⟩) (h_a := ⟨(by decide), (by decide)⟩) (h_b := ⟨(by decide), (by decide)⟩) (h_c := ⟨(by decide), (by decide)⟩) (h_e := ⟨(by decide), (by decide)⟩)  (p_0 := by omega) (p_1 := by omega)) (fun o V' hq => ?_)
    obtain ⟨G723, A724, nd2_725, rfl, rfl, hW726, hF727, hQ728, e729, p730, p731, -⟩ := hq
    have hF733 := Fr_tr hF583 hF727 (Fr_sub (by decide)) (Fr_sub (by decide))
    have hP734 := Pf_tr hP584 hQ728 (by omega)
    have hS735 := Fx_f hS585 hF727 (by decide)
    have hV736 := Fx_f hV586 hF727 (by decide)
    have bnd2_725 : (0 : Int) ≤ nd2_725 ∧ nd2_725 ≤ 6999 := e729 ▸ hW726.1 31
    refine .inr ⟨_, rfl, ?_⟩
    refine jx_ld (pc' := 22) (l' := jSto1 [(0, .ref 66), (1, .int (i32 (lv)))] 2 (.int (i32 (nd)))) (st' := []) rfl rfl ?_
    obtain ⟨L737, eL737⟩ : ∃ q, q = jSto1 [(0, .ref 66), (1, .int (i32 (lv)))] 2 (.int (i32 (nd))) := ⟨_, rfl⟩
    rw [← eL737]
    have gL737_0 : jGet L737 0 = some (.ref 66) := eL737 ▸ jg_ne (by decide) (rfl : jGet [(0, .ref 66), (1, .int (i32 (lv)))] 0 = some (.ref 66)) rfl
    have gL737_1 : jGet L737 1 = some (.int (i32 (lv))) := eL737 ▸ jg_ne (by decide) (rfl : jGet [(0, .ref 66), (1, .int (i32 (lv)))] 1 = some (.int (i32 (lv)))) rfl
    have gL737_2 : jGet L737 2 = some (.int (i32 (nd))) := eL737 ▸ jg_eq
    refine jx_ld (pc' := 23) (l' := L737) (st' := [.ref 66]) rfl (jl_aloadn gL737_0) ?_
    refine jx_vr (pc' := 26) (as := []) (st := []) rfl rfl rfl rfl ⟨rfl, rfl, Nat.le_of_ble_eq_true rfl⟩ rfl rfl (c_endLine (dd := d) (hd := by omega) (hW := hW726)  (ln := ln) (e_ln := show G723 9 = ln from ((hF727.1 9 rfl).trans ((hF576.1 9 rfl).trans (e_ln)))) (li := li) (e_li := show G723 3 = li from ((hF727.1 3 rfl).trans ((hF576.1 3 rfl).trans (e_li)))) (fk := fk) (e_fk := show G723 16 = fk from ((hF727.1 16 rfl).trans ((hF576.1 16 rfl).trans (e_fk)))) (tk0 := tk2_574) (e_tk0 := show G723 11 = tk2_574 from ((hF727.1 11 rfl).trans (e578)))    (p_0 := by omega)) (fun o V' hq => ?_)
    obtain ⟨G738, A739, ln2_740, fk2_741, rfl, rfl, hW742, hF743, e744, e745, q746⟩ := hq
    have hF747 := Fr_tr hF733 hF743 (Fr_sub (by decide)) (Fr_sub (by decide))
    have hP748 := Pf_f hP734 hF743 (by decide)
    have hS749 := Fx_f hS735 hF743 (by decide)
    have hV750 := Fx_f hV736 hF743 (by decide)
    have sf751 : ND A739 (nd) (26) (0) (0) (0) (0) (0) (0) := ND_ag (by omega) (Ag_fr hF743 (by decide)) p731
    have bln2_740 : (0 : Int) ≤ ln2_740 ∧ ln2_740 ≤ 3000 := e744 ▸ hW742.1 9
    have bfk2_741 : (0 : Int) ≤ fk2_741 ∧ fk2_741 ≤ 6 := e745 ▸ hW742.1 16
    refine .inl ⟨rfl, ?_⟩
    rcases q746 with ⟨a752, a753, a754, a755, a756⟩ | ⟨a757, a758⟩
    · have _q : True := trivial
      have b759 : (0 : Int) ≤ A 3 (ln2_740).toNat ∧ A 3 (ln2_740).toNat ≤ 3000 := hW.2 3 _
      have lt760 : ln2_740 < li → le < A 3 (ln2_740).toNat := fun hh => LT_nx (LT_ext (((hF743.1 3 rfl).trans ((hF727.1 3 rfl).trans (hF576.1 3 rfl)))) (((hF743.2 3 rfl).trans ((hF727.2 3 rfl).trans (hF576.2 3 rfl)))) (((hF743.2 4 rfl).trans ((hF727.2 4 rfl).trans (hF576.2 4 rfl)))) i_LT) (show G738 3 = li from ((hF743.1 3 rfl).trans ((hF727.1 3 rfl).trans ((hF576.1 3 rfl).trans (e_li))))) (show A739 4 (ln).toNat = le from (congrFun ((hF743.2 4 rfl).trans ((hF727.2 4 rfl).trans (hF576.2 4 rfl))) _).trans (e_le)) (show A739 3 (ln2_740).toNat = A 3 (ln2_740).toNat from (congrFun ((hF743.2 3 rfl).trans ((hF727.2 3 rfl).trans (hF576.2 3 rfl))) _)) (show ln2_740 = ln + 1 by omega) (by omega) hh
      refine jx_ld (pc' := 27) (l' := L737) (st' := [.ref 66]) rfl (jl_aloadn gL737_0) ?_
      refine jx_ld (pc' := 28) (l' := L737) (st' := [.int (i32 (nd)), .ref 66]) rfl (jl_iloadn gL737_2) ?_
      refine jx_ld (pc' := 29) (l' := L737) (st' := [.int (i32 (lv)), .int (i32 (nd)), .ref 66]) rfl (jl_iloadn gL737_1) ?_
      refine jx_ar (pc' := 30) (st' := [.int (i32 (0)), .int (i32 (lv)), .int (i32 (nd)), .ref 66]) rfl rfl rfl rfl ?_
      refine jx_hp (pc' := 33) (st' := [.int (i32 (100000)), .int (i32 (0)), .int (i32 (lv)), .int (i32 (nd)), .ref 66]) rfl rfl rfl rfl rfl rfl ?_
      refine jx_vr (pc' := 36) (as := [.int (i32 (nd)), .int (i32 (lv)), .int (i32 (0)), .int (i32 (100000))]) (st := []) rfl rfl rfl rfl ⟨rfl, rfl, Nat.le_of_ble_eq_true rfl⟩ rfl rfl (c_readChildren (dd := d) (hP := hP) (zz := nd) (hd := by omega) (hW := hW742) (n := nd) (lv := lv) (least := 0) (mo := 100000) (kk := 26) (aa := 0) (bb := 0) (cc := 0) (de := 0) (xx := 0) (ln := ln2_740) (e_ln := show G738 9 = ln2_740 from (e744)) (li := li) (e_li := show G738 3 = li from ((hF743.1 3 rfl).trans ((hF727.1 3 rfl).trans ((hF576.1 3 rfl).trans (e_li))))) (at0 := at2_573) (e_at0 := show G738 10 = at2_573 from ((hF743.1 10 rfl).trans ((hF727.1 10 rfl).trans (e577)))) (fk := fk2_741) (e_fk := show G738 16 = fk2_741 from (e745)) (nd := nd2_725) (e_nd := show G738 31 = nd2_725 from ((hF743.1 31 rfl).trans (e729))) (sy := sy) (e_sy := show G738 19 = sy from ((hF743.1 19 rfl).trans ((hF727.1 19 rfl).trans ((hF576.1 19 rfl).trans (e_sy))))) (na := na) (e_na := show G738 28 = na from ((hF743.1 28 rfl).trans ((hF727.1 28 rfl).trans ((hF576.1 28 rfl).trans (e_na))))) (vi := vi) (e_vi := show G738 29 = vi from ((hF743.1 29 rfl).trans ((hF727.1 29 rfl).trans ((hF576.1 29 rfl).trans (e_vi))))) (lf := A 3 (ln2_740).toNat) (e_lf := show A739 3 (ln2_740).toNat = A 3 (ln2_740).toNat from (congrFun ((hF743.2 3 rfl).trans ((hF727.2 3 rfl).trans (hF576.2 3 rfl))) _)) (i_LT := (LT_ext (((hF743.1 3 rfl).trans ((hF727.1 3 rfl).trans (hF576.1 3 rfl)))) (((hF743.2 3 rfl).trans ((hF727.2 3 rfl).trans (hF576.2 3 rfl)))) (((hF743.2 4 rfl).trans ((hF727.2 4 rfl).trans (hF576.2 4 rfl)))) i_LT)) (i_SV := (SV_fx i_SV e_vi (show G738 29 = vi from ((hF743.1 29 rfl).trans ((hF727.1 29 rfl).trans ((hF576.1 29 rfl).trans (e_vi))))) (by omega) hV750)) (i_PQ := (PQ_fx i_PQ hS749 (by omega) (hF747.2 29 rfl) (hF747.2 30 rfl))) (hvb := hvb) (h_n := ⟨(Int.le_trans (by decide : (-2147483648 : Int) ≤ 0) b_nd.1), (Int.le_trans b_nd.2 (by decide : (6999 : Int) ≤ 2147483647))⟩) (h_lv := ⟨(Int.le_trans (by decide : (-2147483648 : Int) ≤ -2147483648) h_lv.1), (Int.le_trans h_lv.2 (by decide : (2147483647 : Int) ≤ 2147483647))⟩) (h_least := ⟨(by decide), (by decide)⟩) (h_mo := ⟨(by decide), (by decide)⟩)  (p_0 := by omega) (p_1 := by omega) (p_2 := by omega) (p_3 := by omega) (p_4 := by omega) (p_5 := by omega) (p_6 := by omega) (p_7 := by omega) (p_8 := by omega) (p_9 := by omega) (p_10 := by omega) (p_11 := by omega) (p_12 := by omega) (p_13 := by omega) (p_14 := by omega) (p_15 := sf751)) (fun o V' hq => ?_)
      obtain ⟨G761, A762, ln2_763, at2_764, fk2_765, nd2_766, sy2_767, na2_768, vi2_769, lf2_770, mm_771, f2_772, rfl, rfl, hW773, hF774, hQ775, hQ776, hQ777, hQ778, e779, e780, e781, e782, e783, e784, e785, e786, e787, e788, p789, p790, p791, p792, p793, p794, p795, q796⟩ := hq
      have hF797 := Fr_tr hF747 hF774 (Fr_sub (by decide)) (Fr_sub (by decide))
      have hP798 := Pf_tr hP748 hQ775 (by omega)
      have hS799 := Fx_tr hS749 hQ777 (by omega)
      have hV800 := Fx_tr hV750 hQ778 (by omega)
      have bln2_763 : (0 : Int) ≤ ln2_763 ∧ ln2_763 ≤ 3000 := e779 ▸ hW773.1 9
      have bat2_764 : (0 : Int) ≤ at2_764 ∧ at2_764 ≤ 3002 := e780 ▸ hW773.1 10
      have bfk2_765 : (0 : Int) ≤ fk2_765 ∧ fk2_765 ≤ 6 := e781 ▸ hW773.1 16
      have bnd2_766 : (0 : Int) ≤ nd2_766 ∧ nd2_766 ≤ 6999 := e782 ▸ hW773.1 31
      have bsy2_767 : (0 : Int) ≤ sy2_767 ∧ sy2_767 ≤ 202 := e783 ▸ hW773.1 19
      have bna2_768 : (0 : Int) ≤ na2_768 ∧ na2_768 ≤ 200 := e784 ▸ hW773.1 28
      have bvi2_769 : (0 : Int) ≤ vi2_769 ∧ vi2_769 ≤ 202 := e785 ▸ hW773.1 29
      have blf2_770 : (0 : Int) ≤ lf2_770 ∧ lf2_770 ≤ 3000 := e786 ▸ hW773.2 3 _
      have bmm_771 : (-2147483648 : Int) ≤ mm_771 ∧ mm_771 ≤ 2147483647 := e787 ▸ hW773.2 18 _
      have bf2_772 : (-2147483648 : Int) ≤ f2_772 ∧ f2_772 ≤ 2147483647 := e788 ▸ hW773.2 21 _
      refine .inl ⟨rfl, ?_⟩
      rcases q796 with ⟨a801, a802⟩ | ⟨a803, a804, a805, a806, a807, a808, a809⟩
      · have _q : True := trivial
        refine jx_ld (pc' := 37) (l' := L737) (st' := [.int (i32 (nd))]) rfl (jl_iloadn gL737_2) ?_
        refine jx_rt (v := some (.int (i32 (nd)))) rfl rfl rfl rfl rfl rfl ?_
        exact ⟨_, _, _, ln2_763, at2_764, fk2_765, nd2_766, sy2_767, na2_768, vi2_769, lf2_770, rfl, rfl, hW773, hF797, hP798, hS799, hV800, by omega, (e779), (e780), (e781), (e782), (e783), (e784), (e785), (e786), by omega, by omega, by omega, by omega, by omega, by omega, by omega, by omega, by omega, by omega, by first | exact Or.inl (⟨by omega, by omega⟩)⟩
      · have _q : True := trivial
        refine jx_ld (pc' := 37) (l' := L737) (st' := [.int (i32 (nd))]) rfl (jl_iloadn gL737_2) ?_
        refine jx_rt (v := some (.int (i32 (nd)))) rfl rfl rfl rfl rfl rfl ?_
        exact ⟨_, _, _, ln2_763, at2_764, fk2_765, nd2_766, sy2_767, na2_768, vi2_769, lf2_770, rfl, rfl, hW773, hF797, hP798, hS799, hV800, by omega, (e779), (e780), (e781), (e782), (e783), (e784), (e785), (e786), by omega, by omega, by omega, by omega, by omega, by omega, by omega, by omega, by omega, by omega, by first | exact Or.inr ((⟨by omega, by omega, by omega, by omega, by omega, by omega, by omega, (wS_seq (many := mm_771) a808 (RL_eq a809 (by omega) (by omega) (by omega) (by omega) (by omega))), (NX_nd a808)⟩))⟩
    · have _q : True := trivial
      refine jx_ld (pc' := 27) (l' := L737) (st' := [.ref 66]) rfl (jl_aloadn gL737_0) ?_
      refine jx_ld (pc' := 28) (l' := L737) (st' := [.int (i32 (nd)), .ref 66]) rfl (jl_iloadn gL737_2) ?_
      refine jx_ld (pc' := 29) (l' := L737) (st' := [.int (i32 (lv)), .int (i32 (nd)), .ref 66]) rfl (jl_iloadn gL737_1) ?_
      refine jx_ar (pc' := 30) (st' := [.int (i32 (0)), .int (i32 (lv)), .int (i32 (nd)), .ref 66]) rfl rfl rfl rfl ?_
      refine jx_hp (pc' := 33) (st' := [.int (i32 (100000)), .int (i32 (0)), .int (i32 (lv)), .int (i32 (nd)), .ref 66]) rfl rfl rfl rfl rfl rfl ?_
      refine jx_vr (pc' := 36) (as := [.int (i32 (nd)), .int (i32 (lv)), .int (i32 (0)), .int (i32 (100000))]) (st := []) rfl rfl rfl rfl ⟨rfl, rfl, Nat.le_of_ble_eq_true rfl⟩ rfl rfl (c_readChildren_f (dd := d) (zz := nd) (hd := by omega) (hW := hW742) (n := nd) (lv := lv) (least := 0) (mo := 100000) (fk := fk2_741) (e_fk := show G738 16 = fk2_741 from (e745))  (h_n := ⟨(Int.le_trans (by decide : (-2147483648 : Int) ≤ 0) b_nd.1), (Int.le_trans b_nd.2 (by decide : (6999 : Int) ≤ 2147483647))⟩) (h_lv := ⟨(Int.le_trans (by decide : (-2147483648 : Int) ≤ -2147483648) h_lv.1), (Int.le_trans h_lv.2 (by decide : (2147483647 : Int) ≤ 2147483647))⟩) (h_least := ⟨(by decide), (by decide)⟩) (h_mo := ⟨(by decide), (by decide)⟩)  (p_0 := by omega) (p_1 := by omega) (p_2 := by omega) (p_3 := by omega)) (fun o V' hq => ?_)
      obtain ⟨G810, A811, fk2_812, rfl, rfl, hW813, hF814, hQ815, e816, p817, -⟩ := hq
      have hF819 := Fr_tr hF747 hF814 (Fr_sub (by decide)) (Fr_sub (by decide))
      have hP820 := Pf_tr hP748 hQ815 (by omega)
      have hS821 := Fx_f hS749 hF814 (by decide)
      have hV822 := Fx_f hV750 hF814 (by decide)
      have bfk2_812 : (0 : Int) ≤ fk2_812 ∧ fk2_812 ≤ 6 := e816 ▸ hW813.1 16
      refine .inl ⟨rfl, ?_⟩
      refine jx_ld (pc' := 37) (l' := L737) (st' := [.int (i32 (nd))]) rfl (jl_iloadn gL737_2) ?_
      refine jx_rt (v := some (.int (i32 (nd)))) rfl rfl rfl rfl rfl rfl ?_
      exact ⟨_, _, _, ln2_740, at2_573, fk2_812, nd2_725, sy, na, vi, A 3 (ln2_740).toNat, rfl, rfl, hW813, hF819, hP820, hS821, hV822, by omega, ((hF814.1 9 rfl).trans (e744)), ((hF814.1 10 rfl).trans ((hF743.1 10 rfl).trans ((hF727.1 10 rfl).trans (e577)))), (e816), ((hF814.1 31 rfl).trans ((hF743.1 31 rfl).trans (e729))), ((hF814.1 19 rfl).trans ((hF743.1 19 rfl).trans ((hF727.1 19 rfl).trans ((hF576.1 19 rfl).trans (e_sy))))), ((hF814.1 28 rfl).trans ((hF743.1 28 rfl).trans ((hF727.1 28 rfl).trans ((hF576.1 28 rfl).trans (e_na))))), ((hF814.1 29 rfl).trans ((hF743.1 29 rfl).trans ((hF727.1 29 rfl).trans ((hF576.1 29 rfl).trans (e_vi))))), (congrFun ((hF814.2 3 rfl).trans ((hF743.2 3 rfl).trans ((hF727.2 3 rfl).trans (hF576.2 3 rfl)))) _), by omega, by omega, by omega, by omega, by omega, by omega, by omega, by omega, by omega, by omega, by first | exact Or.inl (⟨by omega, by omega⟩)⟩
set_option maxRecDepth 20000 in
set_option maxHeartbeats 4000000 in
theorem c_readPar_at_132p {X : jX} {k : Nat} (hP : RP X k) {d : Nat} {Vs : Nat → Prop} {sb pb : Int} (hvb : VB Vs sb) {c0 c1 : jC} {G : Nat → Int} {A : Nat → Nat → Int} {T : jH} {lv : Int} {ln li at0 fk nd sy na vi le op0 tk0 : Int} (hd : 8 * k + 82 ≤ d + 1) (hW : Wk G A) (e_ln : G 9 = ln) (e_li : G 3 = li) (e_at0 : G 10 = at0) (e_fk : G 16 = fk) (e_nd : G 31 = nd) (e_sy : G 19 = sy) (e_na : G 28 = na) (e_vi : G 29 = vi) (e_le : A 4 (ln).toNat = le) (e_op0 : G 15 = op0) (e_tk0 : G 11 = tk0) (i_LT : LT G A) (i_SV : SV Vs sb G A) (i_PQ : PQ Vs sb pb G A) (h_lv : (-2147483648 : Int) ≤ lv ∧ lv ≤ 2147483647) (p_0 : 0 ≤ lv ∧ lv ≤ 15) (p_1 : 18 - lv ≤ ((k + 1 : Nat) : Int)) (p_2 : fk = 0) (p_3 : ln < li) (p_4 : at0 ≤ le) (p_5 : op0 = 0) (p_6 : nd ≤ 2 * at0 - tz tk0 + 30) (p_7 : sy ≤ na + 2) (p_8 : vi ≤ sy) (p_9 : sb = sy) (p_10 : 1 ≤ tk0) : ∀ (L : jL) (Gx : Nat → Int) (Ax : Nat → Nat → Int) (n at1 tk1 fk1 nd1 op1 sy1 na1 : Int), jGet L 0 = some (.ref 66) → jGet L 1 = some (.int (i32 (lv))) → jGet L 2 = some (.int (i32 n)) → Wk Gx Ax → Fr [9, 10, 11, 12, 13, 14, 15, 16, 17, 18, 19, 28, 29, 31] [6, 7, 8, 9, 10, 11, 12, 14, 15, 16, 17, 18, 19, 20, 21, 22, 23, 24, 28] G A Gx Ax → Pf nd A Ax → Fx sr (sy) A Ax → Fx [14] (vi) A Ax → Gx 10 = at1 → Gx 11 = tk1 → Gx 16 = fk1 → Gx 31 = nd1 → Gx 15 = op1 → Gx 19 = sy1 → Gx 28 = na1 → Gx 9 = ln → Gx 29 = vi → ((-2147483648 : Int) ≤ n ∧ n ≤ 2147483647) → (1 ≤ fk1) → (at0 ≤ at1) → (at1 ≤ le) → (nd ≤ n ∧ n ≤ 6998 ∧ n < nd1) → (sy ≤ sy1) → (sy1 ≤ na1 + 2) → (0 ≤ op1 ∧ op1 ≤ 9) → (nd1 - nd ≤ 2 * at1 - 2 * at0 + 8) → wj X d jm299 (132, L, [], rV c0 c1 Gx Ax T) (fun o V' => ∃ (G' : Nat → Int) (A' : Nat → Nat → Int) (r : Int) (ln2 : Int) (at2 : Int) (fk2 : Int) (nd2 : Int) (sy2 : Int) (na2 : Int) (vi2 : Int) (lf2 : Int), V' = rV c0 c1 G' A' T ∧ o = .inl (some (.int (i32 r))) ∧ Wk G' A' ∧ Fr [9, 10, 11, 12, 13, 14, 15, 16, 17, 18, 19, 28, 29, 31] [6, 7, 8, 9, 10, 11, 12, 14, 15, 16, 17, 18, 19, 20, 21, 22, 23, 24, 28] G A G' A' ∧ Pf nd A A' ∧ Fx sr (sy) A A' ∧ Fx [14] (vi) A A' ∧ ((-2147483648 : Int) ≤ r ∧ r ≤ 2147483647) ∧ G' 9 = ln2 ∧ G' 10 = at2 ∧ G' 16 = fk2 ∧ G' 31 = nd2 ∧ G' 19 = sy2 ∧ G' 28 = na2 ∧ G' 29 = vi2 ∧ A' 3 (ln2).toNat = lf2 ∧ (at0 ≤ at2) ∧ (nd ≤ nd2) ∧ (sy ≤ sy2) ∧ (sy2 ≤ na2 + 2) ∧ (vi ≤ vi2) ∧ (vi2 ≤ vi + 1) ∧ (0 ≤ r) ∧ (r ≤ 6999) ∧ (ln ≤ ln2) ∧ (ln2 ≤ li) ∧ (((1 ≤ fk2) ∧ (nd2 - nd ≤ 2 * at2 - (2 * at0 - tz tk0) + 14)) ∨ ((fk2 = 0) ∧ (vi2 = vi) ∧ (ln < ln2) ∧ (nd2 - nd ≤ 2 * at2 - (2 * at0 - tz tk0)) ∧ (at2 < lf2 ∨ li ≤ ln2) ∧ (nd ≤ r) ∧ (r < nd2) ∧ (wSt A' (sy2) pb (wP A' (sy2) pb (k)) (Vs) (r) (nd) (nd2) (sy) (sy2)) ∧ (NX A' (r))))) := by
  have hF0 : Fr [9, 10, 11, 12, 13, 14, 15, 16, 17, 18, 19, 28, 29, 31] [6, 7, 8, 9, 10, 11, 12, 14, 15, 16, 17, 18, 19, 20, 21, 22, 23, 24, 28] G A G A := Fr_rf
  have hP0 : Pf nd A A := Pf_rf
  have hS0 : Fx sr (sy) A A := Fx_rf
  have hV0 : Fx [14] (vi) A A := Fx_rf
  have b_ln : (0 : Int) ≤ ln ∧ ln ≤ 3000 := e_ln ▸ hW.1 9
  have b_li : (0 : Int) ≤ li ∧ li ≤ 3000 := e_li ▸ hW.1 3
  have b_at0 : (0 : Int) ≤ at0 ∧ at0 ≤ 3002 := e_at0 ▸ hW.1 10
  have b_fk : (0 : Int) ≤ fk ∧ fk ≤ 6 := e_fk ▸ hW.1 16
  have b_nd : (0 : Int) ≤ nd ∧ nd ≤ 6999 := e_nd ▸ hW.1 31
  have b_sy : (0 : Int) ≤ sy ∧ sy ≤ 202 := e_sy ▸ hW.1 19
  have b_na : (0 : Int) ≤ na ∧ na ≤ 200 := e_na ▸ hW.1 28
  have b_vi : (0 : Int) ≤ vi ∧ vi ≤ 202 := e_vi ▸ hW.1 29
  have b_le : (0 : Int) ≤ le ∧ le ≤ 3000 := e_le ▸ hW.2 4 _
  have b_op0 : (-2147483648 : Int) ≤ op0 ∧ op0 ≤ 2147483647 := e_op0 ▸ hW.1 15
  have z_tk0 := tz_f tk0
  have b_tk0 : (0 : Int) ≤ tk0 ∧ tk0 ≤ 5 := e_tk0 ▸ hW.1 11
  intro L Gx Ax n at1 tk1 fk1 nd1 op1 sy1 na1 gL_0 gL_1 gL_2 hWx hFx hPx hSx hVx ex_at1 ex_tk1 ex_fk1 ex_nd1 ex_op1 ex_sy1 ex_na1 fx_9 fx_29 rx_n iv_0 iv_1 iv_2 iv_3 iv_4 iv_5 iv_6 iv_7
  have b_at1 : (0 : Int) ≤ at1 ∧ at1 ≤ 3002 := ex_at1 ▸ hWx.1 10
  have z_tk1 := tz_f tk1
  have b_tk1 : (0 : Int) ≤ tk1 ∧ tk1 ≤ 5 := ex_tk1 ▸ hWx.1 11
  have b_fk1 : (0 : Int) ≤ fk1 ∧ fk1 ≤ 6 := ex_fk1 ▸ hWx.1 16
  have b_nd1 : (0 : Int) ≤ nd1 ∧ nd1 ≤ 6999 := ex_nd1 ▸ hWx.1 31
  have b_op1 : (-2147483648 : Int) ≤ op1 ∧ op1 ≤ 2147483647 := ex_op1 ▸ hWx.1 15
  have b_sy1 : (0 : Int) ≤ sy1 ∧ sy1 ≤ 202 := ex_sy1 ▸ hWx.1 19
  have b_na1 : (0 : Int) ≤ na1 ∧ na1 ≤ 200 := ex_na1 ▸ hWx.1 28
  refine jx_ld (pc' := 133) (l' := L) (st' := [.ref 66]) rfl (jl_aloadn gL_0) ?_
  refine jx_vr (pc' := 136) (as := []) (st := []) rfl rfl rfl rfl ⟨rfl, rfl, Nat.le_of_ble_eq_true rfl⟩ rfl rfl (c_endLine (dd := d) (hd := by omega) (hW := hWx)  (ln := ln) (e_ln := show Gx 9 = ln from (fx_9)) (li := li) (e_li := show Gx 3 = li from ((hFx.1 3 rfl).trans (e_li))) (fk := fk1) (e_fk := show Gx 16 = fk1 from (ex_fk1)) (tk0 := tk1) (e_tk0 := show Gx 11 = tk1 from (ex_tk1))    (p_0 := by omega)) (fun o V' hq => ?_)
  obtain ⟨G1, A2, ln2_3, fk2_4, rfl, rfl, hW5, hF6, e7, e8, q9⟩ := hq
  have hF10 := Fr_tr hFx hF6 (Fr_sub (by decide)) (Fr_sub (by decide))
  have hP11 := Pf_f hPx hF6 (by decide)
  have hS12 := Fx_f hSx hF6 (by decide)
  have hV13 := Fx_f hVx hF6 (by decide)
  have bln2_3 : (0 : Int) ≤ ln2_3 ∧ ln2_3 ≤ 3000 := e7 ▸ hW5.1 9
  have bfk2_4 : (0 : Int) ≤ fk2_4 ∧ fk2_4 ≤ 6 := e8 ▸ hW5.1 16
  refine .inl ⟨rfl, ?_⟩
  rcases q9 with ⟨a14, a15, a16, a17, a18⟩ | ⟨a19, a20⟩
  · have _q : True := trivial
    exfalso
    omega
  · have _q : True := trivial
    refine jx_ld (pc' := 137) (l' := L) (st' := [.ref 66]) rfl (jl_aloadn gL_0) ?_
    refine jx_ld (pc' := 138) (l' := L) (st' := [.int (i32 (n)), .ref 66]) rfl (jl_iloadn gL_2) ?_
    refine jx_ld (pc' := 139) (l' := L) (st' := [.int (i32 (lv)), .int (i32 (n)), .ref 66]) rfl (jl_iloadn gL_1) ?_
    refine jx_vr (pc' := 142) (as := [.int (i32 (n)), .int (i32 (lv))]) (st := []) rfl rfl rfl rfl ⟨rfl, rfl, Nat.le_of_ble_eq_true rfl⟩ rfl rfl (c_readIndexed_f (dd := d) (hd := by omega) (hW := hW5) (n := n) (lv := lv) (fk := fk2_4) (e_fk := show G1 16 = fk2_4 from (e8))  (h_n := ⟨(Int.le_trans (by decide : (-2147483648 : Int) ≤ -2147483648) rx_n.1), (Int.le_trans rx_n.2 (by decide : (2147483647 : Int) ≤ 2147483647))⟩) (h_lv := ⟨(Int.le_trans (by decide : (-2147483648 : Int) ≤ -2147483648) h_lv.1), (Int.le_trans h_lv.2 (by decide : (2147483647 : Int) ≤ 2147483647))⟩)  (p_0 := by omega)) (fun o V' hq => ?_)
    obtain ⟨r21, rfl, rfl, b22, p23, -⟩ := hq
    refine .inr ⟨_, rfl, ?_⟩
    refine jx_rt (v := some (.int (i32 (r21)))) rfl rfl rfl rfl rfl rfl ?_
    exact ⟨_, _, _, ln2_3, at1, fk2_4, nd1, sy1, na1, vi, A 3 (ln2_3).toNat, rfl, rfl, hW5, hF10, hP11, hS12, hV13, by omega, (e7), ((hF6.1 10 rfl).trans (ex_at1)), (e8), ((hF6.1 31 rfl).trans (ex_nd1)), ((hF6.1 19 rfl).trans (ex_sy1)), ((hF6.1 28 rfl).trans (ex_na1)), ((hF6.1 29 rfl).trans (fx_29)), (congrFun ((hF6.2 3 rfl).trans (hFx.2 3 rfl)) _), by omega, by omega, by omega, by omega, by omega, by omega, by omega, by omega, by omega, by omega, by first | exact Or.inl (⟨by omega, by omega⟩)⟩
set_option maxRecDepth 20000 in
set_option maxHeartbeats 4000000 in
theorem c_readPar_at_119p {X : jX} {k : Nat} (hP : RP X k) {d : Nat} {Vs : Nat → Prop} {sb pb : Int} (hvb : VB Vs sb) {c0 c1 : jC} {G : Nat → Int} {A : Nat → Nat → Int} {T : jH} {lv : Int} {ln li at0 fk nd sy na vi le op0 tk0 : Int} (hd : 8 * k + 82 ≤ d + 1) (hW : Wk G A) (e_ln : G 9 = ln) (e_li : G 3 = li) (e_at0 : G 10 = at0) (e_fk : G 16 = fk) (e_nd : G 31 = nd) (e_sy : G 19 = sy) (e_na : G 28 = na) (e_vi : G 29 = vi) (e_le : A 4 (ln).toNat = le) (e_op0 : G 15 = op0) (e_tk0 : G 11 = tk0) (i_LT : LT G A) (i_SV : SV Vs sb G A) (i_PQ : PQ Vs sb pb G A) (h_lv : (-2147483648 : Int) ≤ lv ∧ lv ≤ 2147483647) (p_0 : 0 ≤ lv ∧ lv ≤ 15) (p_1 : 18 - lv ≤ ((k + 1 : Nat) : Int)) (p_2 : fk = 0) (p_3 : ln < li) (p_4 : at0 ≤ le) (p_5 : op0 = 0) (p_6 : nd ≤ 2 * at0 - tz tk0 + 30) (p_7 : sy ≤ na + 2) (p_8 : vi ≤ sy) (p_9 : sb = sy) (p_10 : 1 ≤ tk0) : ∀ (L : jL) (Gx : Nat → Int) (Ax : Nat → Nat → Int) (n at1 tk1 fk1 nd1 op1 sy1 na1 : Int), jGet L 0 = some (.ref 66) → jGet L 1 = some (.int (i32 (lv))) → jGet L 2 = some (.int (i32 n)) → Wk Gx Ax → Fr [9, 10, 11, 12, 13, 14, 15, 16, 17, 18, 19, 28, 29, 31] [6, 7, 8, 9, 10, 11, 12, 14, 15, 16, 17, 18, 19, 20, 21, 22, 23, 24, 28] G A Gx Ax → Pf nd A Ax → Fx sr (sy) A Ax → Fx [14] (vi) A Ax → Gx 10 = at1 → Gx 11 = tk1 → Gx 16 = fk1 → Gx 31 = nd1 → Gx 15 = op1 → Gx 19 = sy1 → Gx 28 = na1 → Gx 9 = ln → Gx 29 = vi → ((-2147483648 : Int) ≤ n ∧ n ≤ 2147483647) → (1 ≤ fk1) → (at0 ≤ at1) → (at1 ≤ le) → (nd ≤ n ∧ n ≤ 6998 ∧ n < nd1) → (sy ≤ sy1) → (sy1 ≤ na1 + 2) → (0 ≤ op1 ∧ op1 ≤ 9) → (nd1 - nd ≤ 2 * at1 - 2 * at0 + 8) → wj X d jm299 (119, L, [], rV c0 c1 Gx Ax T) (fun o V' => ∃ (G' : Nat → Int) (A' : Nat → Nat → Int) (r : Int) (ln2 : Int) (at2 : Int) (fk2 : Int) (nd2 : Int) (sy2 : Int) (na2 : Int) (vi2 : Int) (lf2 : Int), V' = rV c0 c1 G' A' T ∧ o = .inl (some (.int (i32 r))) ∧ Wk G' A' ∧ Fr [9, 10, 11, 12, 13, 14, 15, 16, 17, 18, 19, 28, 29, 31] [6, 7, 8, 9, 10, 11, 12, 14, 15, 16, 17, 18, 19, 20, 21, 22, 23, 24, 28] G A G' A' ∧ Pf nd A A' ∧ Fx sr (sy) A A' ∧ Fx [14] (vi) A A' ∧ ((-2147483648 : Int) ≤ r ∧ r ≤ 2147483647) ∧ G' 9 = ln2 ∧ G' 10 = at2 ∧ G' 16 = fk2 ∧ G' 31 = nd2 ∧ G' 19 = sy2 ∧ G' 28 = na2 ∧ G' 29 = vi2 ∧ A' 3 (ln2).toNat = lf2 ∧ (at0 ≤ at2) ∧ (nd ≤ nd2) ∧ (sy ≤ sy2) ∧ (sy2 ≤ na2 + 2) ∧ (vi ≤ vi2) ∧ (vi2 ≤ vi + 1) ∧ (0 ≤ r) ∧ (r ≤ 6999) ∧ (ln ≤ ln2) ∧ (ln2 ≤ li) ∧ (((1 ≤ fk2) ∧ (nd2 - nd ≤ 2 * at2 - (2 * at0 - tz tk0) + 14)) ∨ ((fk2 = 0) ∧ (vi2 = vi) ∧ (ln < ln2) ∧ (nd2 - nd ≤ 2 * at2 - (2 * at0 - tz tk0)) ∧ (at2 < lf2 ∨ li ≤ ln2) ∧ (nd ≤ r) ∧ (r < nd2) ∧ (wSt A' (sy2) pb (wP A' (sy2) pb (k)) (Vs) (r) (nd) (nd2) (sy) (sy2)) ∧ (NX A' (r))))) := by
  have hF0 : Fr [9, 10, 11, 12, 13, 14, 15, 16, 17, 18, 19, 28, 29, 31] [6, 7, 8, 9, 10, 11, 12, 14, 15, 16, 17, 18, 19, 20, 21, 22, 23, 24, 28] G A G A := Fr_rf
  have hP0 : Pf nd A A := Pf_rf
  have hS0 : Fx sr (sy) A A := Fx_rf
  have hV0 : Fx [14] (vi) A A := Fx_rf
  have b_ln : (0 : Int) ≤ ln ∧ ln ≤ 3000 := e_ln ▸ hW.1 9
  have b_li : (0 : Int) ≤ li ∧ li ≤ 3000 := e_li ▸ hW.1 3
  have b_at0 : (0 : Int) ≤ at0 ∧ at0 ≤ 3002 := e_at0 ▸ hW.1 10
  have b_fk : (0 : Int) ≤ fk ∧ fk ≤ 6 := e_fk ▸ hW.1 16
  have b_nd : (0 : Int) ≤ nd ∧ nd ≤ 6999 := e_nd ▸ hW.1 31
  have b_sy : (0 : Int) ≤ sy ∧ sy ≤ 202 := e_sy ▸ hW.1 19
  have b_na : (0 : Int) ≤ na ∧ na ≤ 200 := e_na ▸ hW.1 28
  have b_vi : (0 : Int) ≤ vi ∧ vi ≤ 202 := e_vi ▸ hW.1 29
  have b_le : (0 : Int) ≤ le ∧ le ≤ 3000 := e_le ▸ hW.2 4 _
  have b_op0 : (-2147483648 : Int) ≤ op0 ∧ op0 ≤ 2147483647 := e_op0 ▸ hW.1 15
  have z_tk0 := tz_f tk0
  have b_tk0 : (0 : Int) ≤ tk0 ∧ tk0 ≤ 5 := e_tk0 ▸ hW.1 11
  intro L Gx Ax n at1 tk1 fk1 nd1 op1 sy1 na1 gL_0 gL_1 gL_2 hWx hFx hPx hSx hVx ex_at1 ex_tk1 ex_fk1 ex_nd1 ex_op1 ex_sy1 ex_na1 fx_9 fx_29 rx_n iv_0 iv_1 iv_2 iv_3 iv_4 iv_5 iv_6 iv_7
  have b_at1 : (0 : Int) ≤ at1 ∧ at1 ≤ 3002 := ex_at1 ▸ hWx.1 10
  have z_tk1 := tz_f tk1
  have b_tk1 : (0 : Int) ≤ tk1 ∧ tk1 ≤ 5 := ex_tk1 ▸ hWx.1 11
  have b_fk1 : (0 : Int) ≤ fk1 ∧ fk1 ≤ 6 := ex_fk1 ▸ hWx.1 16
  have b_nd1 : (0 : Int) ≤ nd1 ∧ nd1 ≤ 6999 := ex_nd1 ▸ hWx.1 31
  have b_op1 : (-2147483648 : Int) ≤ op1 ∧ op1 ≤ 2147483647 := ex_op1 ▸ hWx.1 15
  have b_sy1 : (0 : Int) ≤ sy1 ∧ sy1 ≤ 202 := ex_sy1 ▸ hWx.1 19
  have b_na1 : (0 : Int) ≤ na1 ∧ na1 ≤ 200 := ex_na1 ▸ hWx.1 28
  refine jx_ld (pc' := 120) (l' := L) (st' := [.ref 66]) rfl (jl_aloadn gL_0) ?_
  refine jr_get (pc' := 123) (i := 37) (v := .ref 87) rfl rfl (by decide) rfl rfl ?_
  refine jx_ld (pc' := 124) (l' := L) (st' := [.int (i32 (n)), .ref 87]) rfl (jl_iloadn gL_2) ?_
  refine jx_ld (pc' := 125) (l' := L) (st' := [.ref 66, .int (i32 (n)), .ref 87]) rfl (jl_aloadn gL_0) ?_
  refine jx_ar (pc' := 126) (st' := [.int (i32 (1)), .ref 66, .int (i32 (n)), .ref 87]) rfl rfl rfl rfl ?_
  refine jx_ar (pc' := 128) (st' := [.int (i32 (8)), .int (i32 (1)), .ref 66, .int (i32 (n)), .ref 87]) rfl rfl rfl rfl ?_
  refine jx_vr (pc' := 131) (as := [.int (i32 (1)), .int (i32 (8))]) (st := [.int (i32 (n)), .ref 87]) rfl rfl rfl rfl ⟨rfl, rfl, Nat.le_of_ble_eq_true rfl⟩ rfl rfl (c_needNumber (dd := d) (hd := by omega) (hW := hWx) (lo := 1) (hi := 8) (ln := ln) (e_ln := show Gx 9 = ln from (fx_9)) (le := le) (e_le := show Ax 4 (ln).toNat = le from (congrFun (hFx.2 4 rfl) _).trans (e_le)) (at0 := at1) (e_at0 := show Gx 10 = at1 from (ex_at1)) (fk := fk1) (e_fk := show Gx 16 = fk1 from (ex_fk1)) (tk0 := tk1) (e_tk0 := show Gx 11 = tk1 from (ex_tk1))  (h_lo := ⟨(by decide), (by decide)⟩) (h_hi := ⟨(by decide), (by decide)⟩)  (p_0 := by omega)) (fun o V' hq => ?_)
  obtain ⟨G25, A26, r27, at2_28, tk2_29, fk2_30, rfl, rfl, hW31, hF32, b33, e34, e35, e36, p37, p38, q39⟩ := hq
  have hF40 := Fr_tr hFx hF32 (Fr_sub (by decide)) (Fr_sub (by decide))
  have hP41 := Pf_f hPx hF32 (by decide)
  have hS42 := Fx_f hSx hF32 (by decide)
  have hV43 := Fx_f hVx hF32 (by decide)
  have bat2_28 : (0 : Int) ≤ at2_28 ∧ at2_28 ≤ 3002 := e34 ▸ hW31.1 10
  have ztk2_29 := tz_b tk2_29
  have btk2_29 : (0 : Int) ≤ tk2_29 ∧ tk2_29 ≤ 5 := e35 ▸ hW31.1 11
  have bfk2_30 : (0 : Int) ≤ fk2_30 ∧ fk2_30 ≤ 6 := e36 ▸ hW31.1 16
  refine .inr ⟨_, rfl, ?_⟩
  rcases q39 with ⟨a44, a45, a46, a47⟩ | ⟨a48, a49, a50, a51, a52⟩
  · have _q : True := trivial
    refine jr_st (pc' := 132) (i := 20) (m := 7000) (z := n) (y := r27) rfl (by decide) rfl (by decide) (by omega) (by omega) rfl ?_
    have hW54 : Wk G25 (uA A26 20 (n).toNat (r27)) := Wk_a hW31 (show (-2147483648 : Int) ≤ r27 by omega) (show r27 ≤ (2147483647 : Int) by omega)
    have hF55 := Fr_a (z := r27) (k := 20) (n := (n).toNat) hF40 (by decide)
    obtain ⟨A53, eA53⟩ : ∃ q, q = uA A26 20 (n).toNat (r27) := ⟨_, rfl⟩
    rw [← eA53]
    rw [← eA53] at hW54 hF55
    have q56 : A53 20 (n).toNat = r27 := by rw [eA53]; exact uA_eq
    have hP57 : Pf nd A A53 := eA53 ▸ Pf_a hP41 (z := n) (by omega) (by omega)
    have hS58 : Fx sr (sy) A A53 := eA53 ▸ Fx_n hS42 rfl
    have hV59 : Fx [14] (vi) A A53 := eA53 ▸ Fx_n hV43 rfl
    have z60 := tz_f (tk2_29)
    exact c_readPar_at_132p (X := X) (k := k) (hP := hP) (d := d) (Vs := Vs) (sb := sb) (pb := pb) (hvb := hvb) (c0 := c0) (c1 := c1) (G := G) (A := A) (T := T) (lv := lv) (ln := ln) (li := li) (at0 := at0) (fk := fk) (nd := nd) (sy := sy) (na := na) (vi := vi) (le := le) (op0 := op0) (tk0 := tk0) (hd := hd) (hW := hW) (e_ln := e_ln) (e_li := e_li) (e_at0 := e_at0) (e_fk := e_fk) (e_nd := e_nd) (e_sy := e_sy) (e_na := e_na) (e_vi := e_vi) (e_le := e_le) (e_op0 := e_op0) (e_tk0 := e_tk0) (i_LT := i_LT) (i_SV := i_SV) (i_PQ := i_PQ) (h_lv := h_lv) (p_0 := p_0) (p_1 := p_1) (p_2 := p_2) (p_3 := p_3) (p_4 := p_4) (p_5 := p_5) (p_6 := p_6) (p_7 := p_7) (p_8 := p_8) (p_9 := p_9) (p_10 := p_10) L G25 A53 (n) (at2_28) (tk2_29) (fk2_30) (nd1) (op1) (sy1) (na1) gL_0 gL_1 gL_2 hW54 hF55 hP57 hS58 hV59 ((e34)) ((e35)) ((e36)) (((hF32.1 31 rfl).trans (ex_nd1))) (((hF32.1 15 rfl).trans (ex_op1))) (((hF32.1 19 rfl).trans (ex_sy1))) (((hF32.1 28 rfl).trans (ex_na1))) (((hF32.1 9 rfl).trans (fx_9))) (((hF32.1 29 rfl).trans (fx_29))) (by omega) (by omega) (by omega) (by omega) (by omega) (by omega) (by omega) (by omega) (by omega)
  · have _q : True := trivial
    exfalso
    omega
set_option maxRecDepth 20000 in
set_option maxHeartbeats 4000000 in
theorem c_readPar_at_109p {X : jX} {k : Nat} (hP : RP X k) {d : Nat} {Vs : Nat → Prop} {sb pb : Int} (hvb : VB Vs sb) {c0 c1 : jC} {G : Nat → Int} {A : Nat → Nat → Int} {T : jH} {lv : Int} {ln li at0 fk nd sy na vi le op0 tk0 : Int} (hd : 8 * k + 82 ≤ d + 1) (hW : Wk G A) (e_ln : G 9 = ln) (e_li : G 3 = li) (e_at0 : G 10 = at0) (e_fk : G 16 = fk) (e_nd : G 31 = nd) (e_sy : G 19 = sy) (e_na : G 28 = na) (e_vi : G 29 = vi) (e_le : A 4 (ln).toNat = le) (e_op0 : G 15 = op0) (e_tk0 : G 11 = tk0) (i_LT : LT G A) (i_SV : SV Vs sb G A) (i_PQ : PQ Vs sb pb G A) (h_lv : (-2147483648 : Int) ≤ lv ∧ lv ≤ 2147483647) (p_0 : 0 ≤ lv ∧ lv ≤ 15) (p_1 : 18 - lv ≤ ((k + 1 : Nat) : Int)) (p_2 : fk = 0) (p_3 : ln < li) (p_4 : at0 ≤ le) (p_5 : op0 = 0) (p_6 : nd ≤ 2 * at0 - tz tk0 + 30) (p_7 : sy ≤ na + 2) (p_8 : vi ≤ sy) (p_9 : sb = sy) (p_10 : 1 ≤ tk0) : ∀ (L : jL) (Gx : Nat → Int) (Ax : Nat → Nat → Int) (n at1 tk1 fk1 nd1 op1 sy1 na1 : Int), jGet L 0 = some (.ref 66) → jGet L 1 = some (.int (i32 (lv))) → jGet L 2 = some (.int (i32 n)) → Wk Gx Ax → Fr [9, 10, 11, 12, 13, 14, 15, 16, 17, 18, 19, 28, 29, 31] [6, 7, 8, 9, 10, 11, 12, 14, 15, 16, 17, 18, 19, 20, 21, 22, 23, 24, 28] G A Gx Ax → Pf nd A Ax → Fx sr (sy) A Ax → Fx [14] (vi) A Ax → Gx 10 = at1 → Gx 11 = tk1 → Gx 16 = fk1 → Gx 31 = nd1 → Gx 15 = op1 → Gx 19 = sy1 → Gx 28 = na1 → Gx 9 = ln → Gx 29 = vi → ((-2147483648 : Int) ≤ n ∧ n ≤ 2147483647) → (1 ≤ fk1) → (at0 ≤ at1) → (at1 ≤ le) → (nd ≤ n ∧ n ≤ 6998 ∧ n < nd1) → (sy ≤ sy1) → (sy1 ≤ na1 + 2) → (0 ≤ op1 ∧ op1 ≤ 9) → (nd1 - nd ≤ 2 * at1 - 2 * at0 + 8) → wj X d jm299 (109, L, [], rV c0 c1 Gx Ax T) (fun o V' => ∃ (G' : Nat → Int) (A' : Nat → Nat → Int) (r : Int) (ln2 : Int) (at2 : Int) (fk2 : Int) (nd2 : Int) (sy2 : Int) (na2 : Int) (vi2 : Int) (lf2 : Int), V' = rV c0 c1 G' A' T ∧ o = .inl (some (.int (i32 r))) ∧ Wk G' A' ∧ Fr [9, 10, 11, 12, 13, 14, 15, 16, 17, 18, 19, 28, 29, 31] [6, 7, 8, 9, 10, 11, 12, 14, 15, 16, 17, 18, 19, 20, 21, 22, 23, 24, 28] G A G' A' ∧ Pf nd A A' ∧ Fx sr (sy) A A' ∧ Fx [14] (vi) A A' ∧ ((-2147483648 : Int) ≤ r ∧ r ≤ 2147483647) ∧ G' 9 = ln2 ∧ G' 10 = at2 ∧ G' 16 = fk2 ∧ G' 31 = nd2 ∧ G' 19 = sy2 ∧ G' 28 = na2 ∧ G' 29 = vi2 ∧ A' 3 (ln2).toNat = lf2 ∧ (at0 ≤ at2) ∧ (nd ≤ nd2) ∧ (sy ≤ sy2) ∧ (sy2 ≤ na2 + 2) ∧ (vi ≤ vi2) ∧ (vi2 ≤ vi + 1) ∧ (0 ≤ r) ∧ (r ≤ 6999) ∧ (ln ≤ ln2) ∧ (ln2 ≤ li) ∧ (((1 ≤ fk2) ∧ (nd2 - nd ≤ 2 * at2 - (2 * at0 - tz tk0) + 14)) ∨ ((fk2 = 0) ∧ (vi2 = vi) ∧ (ln < ln2) ∧ (nd2 - nd ≤ 2 * at2 - (2 * at0 - tz tk0)) ∧ (at2 < lf2 ∨ li ≤ ln2) ∧ (nd ≤ r) ∧ (r < nd2) ∧ (wSt A' (sy2) pb (wP A' (sy2) pb (k)) (Vs) (r) (nd) (nd2) (sy) (sy2)) ∧ (NX A' (r))))) := by
  have hF0 : Fr [9, 10, 11, 12, 13, 14, 15, 16, 17, 18, 19, 28, 29, 31] [6, 7, 8, 9, 10, 11, 12, 14, 15, 16, 17, 18, 19, 20, 21, 22, 23, 24, 28] G A G A := Fr_rf
  have hP0 : Pf nd A A := Pf_rf
  have hS0 : Fx sr (sy) A A := Fx_rf
  have hV0 : Fx [14] (vi) A A := Fx_rf
  have b_ln : (0 : Int) ≤ ln ∧ ln ≤ 3000 := e_ln ▸ hW.1 9
  have b_li : (0 : Int) ≤ li ∧ li ≤ 3000 := e_li ▸ hW.1 3
  have b_at0 : (0 : Int) ≤ at0 ∧ at0 ≤ 3002 := e_at0 ▸ hW.1 10
  have b_fk : (0 : Int) ≤ fk ∧ fk ≤ 6 := e_fk ▸ hW.1 16
  have b_nd : (0 : Int) ≤ nd ∧ nd ≤ 6999 := e_nd ▸ hW.1 31
  have b_sy : (0 : Int) ≤ sy ∧ sy ≤ 202 := e_sy ▸ hW.1 19
  have b_na : (0 : Int) ≤ na ∧ na ≤ 200 := e_na ▸ hW.1 28
  have b_vi : (0 : Int) ≤ vi ∧ vi ≤ 202 := e_vi ▸ hW.1 29
  have b_le : (0 : Int) ≤ le ∧ le ≤ 3000 := e_le ▸ hW.2 4 _
  have b_op0 : (-2147483648 : Int) ≤ op0 ∧ op0 ≤ 2147483647 := e_op0 ▸ hW.1 15
  have z_tk0 := tz_f tk0
  have b_tk0 : (0 : Int) ≤ tk0 ∧ tk0 ≤ 5 := e_tk0 ▸ hW.1 11
  intro L Gx Ax n at1 tk1 fk1 nd1 op1 sy1 na1 gL_0 gL_1 gL_2 hWx hFx hPx hSx hVx ex_at1 ex_tk1 ex_fk1 ex_nd1 ex_op1 ex_sy1 ex_na1 fx_9 fx_29 rx_n iv_0 iv_1 iv_2 iv_3 iv_4 iv_5 iv_6 iv_7
  have b_at1 : (0 : Int) ≤ at1 ∧ at1 ≤ 3002 := ex_at1 ▸ hWx.1 10
  have z_tk1 := tz_f tk1
  have b_tk1 : (0 : Int) ≤ tk1 ∧ tk1 ≤ 5 := ex_tk1 ▸ hWx.1 11
  have b_fk1 : (0 : Int) ≤ fk1 ∧ fk1 ≤ 6 := ex_fk1 ▸ hWx.1 16
  have b_nd1 : (0 : Int) ≤ nd1 ∧ nd1 ≤ 6999 := ex_nd1 ▸ hWx.1 31
  have b_op1 : (-2147483648 : Int) ≤ op1 ∧ op1 ≤ 2147483647 := ex_op1 ▸ hWx.1 15
  have b_sy1 : (0 : Int) ≤ sy1 ∧ sy1 ≤ 202 := ex_sy1 ▸ hWx.1 19
  have b_na1 : (0 : Int) ≤ na1 ∧ na1 ≤ 200 := ex_na1 ▸ hWx.1 28
  refine jx_ld (pc' := 110) (l' := L) (st' := [.ref 66]) rfl (jl_aloadn gL_0) ?_
  refine jx_ld (pc' := 111) (l' := L) (st' := [.ref 66, .ref 66]) rfl (jl_aloadn gL_0) ?_
  refine jx_ar (pc' := 113) (st' := [.int (i32 (13)), .ref 66, .ref 66]) rfl rfl rfl rfl ?_
  have b61 : (-2147483648 : Int) ≤ Gx 13 ∧ Gx 13 ≤ 2147483647 := hWx.1 13
  refine jx_vr (pc' := 116) (as := [.int (i32 (13))]) (st := [.ref 66]) rfl rfl rfl rfl ⟨rfl, rfl, Nat.le_of_ble_eq_true rfl⟩ rfl rfl (c_isKey (dd := d) (hd := by omega) (hW := hWx) (k := 13) (tk := tk1) (e_tk := show Gx 11 = tk1 from (ex_tk1)) (tn := Gx 13) (e_tn := show Gx 13 = Gx 13 from rfl)  (h_k := ⟨(by decide), (by decide)⟩)  ) (fun o V' hq => ?_)
  obtain ⟨r62, rfl, rfl, b63, q64⟩ := hq
  refine .inr ⟨_, rfl, ?_⟩
  rcases q64 with ⟨rfl, a65, a66, a67⟩ | rfl
  · have _q : True := trivial
    refine jx_vr (pc' := 119) (as := [.int (i32 (1))]) (st := []) rfl rfl rfl rfl ⟨rfl, rfl, Nat.le_of_ble_eq_true rfl⟩ rfl rfl (c_need (dd := d) (hd := by omega) (hW := hWx) (g := 1) (ln := ln) (e_ln := show Gx 9 = ln from (fx_9)) (le := le) (e_le := show Ax 4 (ln).toNat = le from (congrFun (hFx.2 4 rfl) _).trans (e_le)) (at0 := at1) (e_at0 := show Gx 10 = at1 from (ex_at1)) (fk := fk1) (e_fk := show Gx 16 = fk1 from (ex_fk1)) (tk0 := tk1) (e_tk0 := show Gx 11 = tk1 from (ex_tk1))  (h_g := ⟨(by decide), (by decide)⟩)  (p_0 := by omega)) (fun o V' hq => ?_)
    obtain ⟨G68, A69, at2_70, tk2_71, fk2_72, rfl, rfl, hW73, hF74, e75, e76, e77, p78, p79, q80⟩ := hq
    have hF81 := Fr_tr hFx hF74 (Fr_sub (by decide)) (Fr_sub (by decide))
    have hP82 := Pf_f hPx hF74 (by decide)
    have hS83 := Fx_f hSx hF74 (by decide)
    have hV84 := Fx_f hVx hF74 (by decide)
    have bat2_70 : (0 : Int) ≤ at2_70 ∧ at2_70 ≤ 3002 := e75 ▸ hW73.1 10
    have ztk2_71 := tz_b tk2_71
    have btk2_71 : (0 : Int) ≤ tk2_71 ∧ tk2_71 ≤ 5 := e76 ▸ hW73.1 11
    have bfk2_72 : (0 : Int) ≤ fk2_72 ∧ fk2_72 ≤ 6 := e77 ▸ hW73.1 16
    refine .inl ⟨rfl, ?_⟩
    rcases q80 with ⟨a85, a86, a87, a88⟩ | ⟨a89, a90, a91, a92⟩
    · have _q : True := trivial
      have z93 := tz_f (tk2_71)
      exact c_readPar_at_119p (X := X) (k := k) (hP := hP) (d := d) (Vs := Vs) (sb := sb) (pb := pb) (hvb := hvb) (c0 := c0) (c1 := c1) (G := G) (A := A) (T := T) (lv := lv) (ln := ln) (li := li) (at0 := at0) (fk := fk) (nd := nd) (sy := sy) (na := na) (vi := vi) (le := le) (op0 := op0) (tk0 := tk0) (hd := hd) (hW := hW) (e_ln := e_ln) (e_li := e_li) (e_at0 := e_at0) (e_fk := e_fk) (e_nd := e_nd) (e_sy := e_sy) (e_na := e_na) (e_vi := e_vi) (e_le := e_le) (e_op0 := e_op0) (e_tk0 := e_tk0) (i_LT := i_LT) (i_SV := i_SV) (i_PQ := i_PQ) (h_lv := h_lv) (p_0 := p_0) (p_1 := p_1) (p_2 := p_2) (p_3 := p_3) (p_4 := p_4) (p_5 := p_5) (p_6 := p_6) (p_7 := p_7) (p_8 := p_8) (p_9 := p_9) (p_10 := p_10) L G68 A69 (n) (at2_70) (tk2_71) (fk2_72) (nd1) (op1) (sy1) (na1) gL_0 gL_1 gL_2 hW73 hF81 hP82 hS83 hV84 ((e75)) ((e76)) ((e77)) (((hF74.1 31 rfl).trans (ex_nd1))) (((hF74.1 15 rfl).trans (ex_op1))) (((hF74.1 19 rfl).trans (ex_sy1))) (((hF74.1 28 rfl).trans (ex_na1))) (((hF74.1 9 rfl).trans (fx_9))) (((hF74.1 29 rfl).trans (fx_29))) (by omega) (by omega) (by omega) (by omega) (by omega) (by omega) (by omega) (by omega) (by omega)
    · have _q : True := trivial
      exfalso
      omega
  · have _q : True := trivial
    refine jx_vr (pc' := 119) (as := [.int (i32 (0))]) (st := []) rfl rfl rfl rfl ⟨rfl, rfl, Nat.le_of_ble_eq_true rfl⟩ rfl rfl (c_need (dd := d) (hd := by omega) (hW := hWx) (g := 0) (ln := ln) (e_ln := show Gx 9 = ln from (fx_9)) (le := le) (e_le := show Ax 4 (ln).toNat = le from (congrFun (hFx.2 4 rfl) _).trans (e_le)) (at0 := at1) (e_at0 := show Gx 10 = at1 from (ex_at1)) (fk := fk1) (e_fk := show Gx 16 = fk1 from (ex_fk1)) (tk0 := tk1) (e_tk0 := show Gx 11 = tk1 from (ex_tk1))  (h_g := ⟨(by decide), (by decide)⟩)  (p_0 := by omega)) (fun o V' hq => ?_)
    obtain ⟨G94, A95, at2_96, tk2_97, fk2_98, rfl, rfl, hW99, hF100, e101, e102, e103, p104, p105, q106⟩ := hq
    have hF107 := Fr_tr hFx hF100 (Fr_sub (by decide)) (Fr_sub (by decide))
    have hP108 := Pf_f hPx hF100 (by decide)
    have hS109 := Fx_f hSx hF100 (by decide)
    have hV110 := Fx_f hVx hF100 (by decide)
    have bat2_96 : (0 : Int) ≤ at2_96 ∧ at2_96 ≤ 3002 := e101 ▸ hW99.1 10
    have ztk2_97 := tz_b tk2_97
    have btk2_97 : (0 : Int) ≤ tk2_97 ∧ tk2_97 ≤ 5 := e102 ▸ hW99.1 11
    have bfk2_98 : (0 : Int) ≤ fk2_98 ∧ fk2_98 ≤ 6 := e103 ▸ hW99.1 16
    refine .inl ⟨rfl, ?_⟩
    rcases q106 with ⟨a111, a112, a113, a114⟩ | ⟨a115, a116, a117, a118⟩
    · have _q : True := trivial
      have z119 := tz_f (tk2_97)
      exact c_readPar_at_119p (X := X) (k := k) (hP := hP) (d := d) (Vs := Vs) (sb := sb) (pb := pb) (hvb := hvb) (c0 := c0) (c1 := c1) (G := G) (A := A) (T := T) (lv := lv) (ln := ln) (li := li) (at0 := at0) (fk := fk) (nd := nd) (sy := sy) (na := na) (vi := vi) (le := le) (op0 := op0) (tk0 := tk0) (hd := hd) (hW := hW) (e_ln := e_ln) (e_li := e_li) (e_at0 := e_at0) (e_fk := e_fk) (e_nd := e_nd) (e_sy := e_sy) (e_na := e_na) (e_vi := e_vi) (e_le := e_le) (e_op0 := e_op0) (e_tk0 := e_tk0) (i_LT := i_LT) (i_SV := i_SV) (i_PQ := i_PQ) (h_lv := h_lv) (p_0 := p_0) (p_1 := p_1) (p_2 := p_2) (p_3 := p_3) (p_4 := p_4) (p_5 := p_5) (p_6 := p_6) (p_7 := p_7) (p_8 := p_8) (p_9 := p_9) (p_10 := p_10) L G94 A95 (n) (at2_96) (tk2_97) (fk2_98) (nd1) (op1) (sy1) (na1) gL_0 gL_1 gL_2 hW99 hF107 hP108 hS109 hV110 ((e101)) ((e102)) ((e103)) (((hF100.1 31 rfl).trans (ex_nd1))) (((hF100.1 15 rfl).trans (ex_op1))) (((hF100.1 19 rfl).trans (ex_sy1))) (((hF100.1 28 rfl).trans (ex_na1))) (((hF100.1 9 rfl).trans (fx_9))) (((hF100.1 29 rfl).trans (fx_29))) (by omega) (by omega) (by omega) (by omega) (by omega) (by omega) (by omega) (by omega) (by omega)
    · have _q : True := trivial
      exfalso
      omega
set_option maxRecDepth 20000 in
set_option maxHeartbeats 4000000 in
theorem c_readPar_at_109 {X : jX} {k : Nat} (hP : RP X k) {d : Nat} {Vs : Nat → Prop} {sb pb : Int} (hvb : VB Vs sb) {c0 c1 : jC} {G : Nat → Int} {A : Nat → Nat → Int} {T : jH} {lv : Int} {ln li at0 fk nd sy na vi le op0 tk0 : Int} (hd : 8 * k + 82 ≤ d + 1) (hW : Wk G A) (e_ln : G 9 = ln) (e_li : G 3 = li) (e_at0 : G 10 = at0) (e_fk : G 16 = fk) (e_nd : G 31 = nd) (e_sy : G 19 = sy) (e_na : G 28 = na) (e_vi : G 29 = vi) (e_le : A 4 (ln).toNat = le) (e_op0 : G 15 = op0) (e_tk0 : G 11 = tk0) (i_LT : LT G A) (i_SV : SV Vs sb G A) (i_PQ : PQ Vs sb pb G A) (h_lv : (-2147483648 : Int) ≤ lv ∧ lv ≤ 2147483647) (p_0 : 0 ≤ lv ∧ lv ≤ 15) (p_1 : 18 - lv ≤ ((k + 1 : Nat) : Int)) (p_2 : fk = 0) (p_3 : ln < li) (p_4 : at0 ≤ le) (p_5 : op0 = 0) (p_6 : nd ≤ 2 * at0 - tz tk0 + 30) (p_7 : sy ≤ na + 2) (p_8 : vi ≤ sy) (p_9 : sb = sy) (p_10 : 1 ≤ tk0) : ∀ (L : jL) (Gx : Nat → Int) (Ax : Nat → Nat → Int) (n at1 tk1 fk1 nd1 op1 sy1 na1 sa1 ka1 ec : Int), jGet L 0 = some (.ref 66) → jGet L 1 = some (.int (i32 (lv))) → jGet L 2 = some (.int (i32 n)) → Wk Gx Ax → Fr [9, 10, 11, 12, 13, 14, 15, 16, 17, 18, 19, 28, 29, 31] [6, 7, 8, 9, 10, 11, 12, 14, 15, 16, 17, 18, 19, 20, 21, 22, 23, 24, 28] G A Gx Ax → Pf nd A Ax → Fx sr (sy) A Ax → Fx [14] (vi) A Ax → Gx 10 = at1 → Gx 11 = tk1 → Gx 16 = fk1 → Gx 31 = nd1 → Gx 15 = op1 → Gx 19 = sy1 → Gx 28 = na1 → Ax 17 (n).toNat = sa1 → Ax 7 (sa1).toNat = ka1 → Ax 19 (n).toNat = ec → Gx 9 = ln → Gx 29 = vi → ((-2147483648 : Int) ≤ n ∧ n ≤ 2147483647) → (fk1 = 0) → (at0 ≤ at1) → (at1 ≤ le) → (n = nd) → (n ≤ 6998 ∧ n < nd1) → (sy1 = sy + 1) → (sa1 = sy) → (sy1 ≤ na1 + 2) → (op1 = 0) → (nd1 - nd ≤ (2 * at1 - tz tk1) - (2 * at0 - tz tk0)) → (ka1 = 10) → (ND Ax (n) (29) (sa1) (0) (ec) (0) (0) (0)) → (0 ≤ ec) → (nd1 = n + 1) → wj X d jm299 (109, L, [], rV c0 c1 Gx Ax T) (fun o V' => ∃ (G' : Nat → Int) (A' : Nat → Nat → Int) (r : Int) (ln2 : Int) (at2 : Int) (fk2 : Int) (nd2 : Int) (sy2 : Int) (na2 : Int) (vi2 : Int) (lf2 : Int), V' = rV c0 c1 G' A' T ∧ o = .inl (some (.int (i32 r))) ∧ Wk G' A' ∧ Fr [9, 10, 11, 12, 13, 14, 15, 16, 17, 18, 19, 28, 29, 31] [6, 7, 8, 9, 10, 11, 12, 14, 15, 16, 17, 18, 19, 20, 21, 22, 23, 24, 28] G A G' A' ∧ Pf nd A A' ∧ Fx sr (sy) A A' ∧ Fx [14] (vi) A A' ∧ ((-2147483648 : Int) ≤ r ∧ r ≤ 2147483647) ∧ G' 9 = ln2 ∧ G' 10 = at2 ∧ G' 16 = fk2 ∧ G' 31 = nd2 ∧ G' 19 = sy2 ∧ G' 28 = na2 ∧ G' 29 = vi2 ∧ A' 3 (ln2).toNat = lf2 ∧ (at0 ≤ at2) ∧ (nd ≤ nd2) ∧ (sy ≤ sy2) ∧ (sy2 ≤ na2 + 2) ∧ (vi ≤ vi2) ∧ (vi2 ≤ vi + 1) ∧ (0 ≤ r) ∧ (r ≤ 6999) ∧ (ln ≤ ln2) ∧ (ln2 ≤ li) ∧ (((1 ≤ fk2) ∧ (nd2 - nd ≤ 2 * at2 - (2 * at0 - tz tk0) + 14)) ∨ ((fk2 = 0) ∧ (vi2 = vi) ∧ (ln < ln2) ∧ (nd2 - nd ≤ 2 * at2 - (2 * at0 - tz tk0)) ∧ (at2 < lf2 ∨ li ≤ ln2) ∧ (nd ≤ r) ∧ (r < nd2) ∧ (wSt A' (sy2) pb (wP A' (sy2) pb (k)) (Vs) (r) (nd) (nd2) (sy) (sy2)) ∧ (NX A' (r))))) := by
  have hF0 : Fr [9, 10, 11, 12, 13, 14, 15, 16, 17, 18, 19, 28, 29, 31] [6, 7, 8, 9, 10, 11, 12, 14, 15, 16, 17, 18, 19, 20, 21, 22, 23, 24, 28] G A G A := Fr_rf
  have hP0 : Pf nd A A := Pf_rf
  have hS0 : Fx sr (sy) A A := Fx_rf
  have hV0 : Fx [14] (vi) A A := Fx_rf
  have b_ln : (0 : Int) ≤ ln ∧ ln ≤ 3000 := e_ln ▸ hW.1 9
  have b_li : (0 : Int) ≤ li ∧ li ≤ 3000 := e_li ▸ hW.1 3
  have b_at0 : (0 : Int) ≤ at0 ∧ at0 ≤ 3002 := e_at0 ▸ hW.1 10
  have b_fk : (0 : Int) ≤ fk ∧ fk ≤ 6 := e_fk ▸ hW.1 16
  have b_nd : (0 : Int) ≤ nd ∧ nd ≤ 6999 := e_nd ▸ hW.1 31
  have b_sy : (0 : Int) ≤ sy ∧ sy ≤ 202 := e_sy ▸ hW.1 19
  have b_na : (0 : Int) ≤ na ∧ na ≤ 200 := e_na ▸ hW.1 28
  have b_vi : (0 : Int) ≤ vi ∧ vi ≤ 202 := e_vi ▸ hW.1 29
  have b_le : (0 : Int) ≤ le ∧ le ≤ 3000 := e_le ▸ hW.2 4 _
  have b_op0 : (-2147483648 : Int) ≤ op0 ∧ op0 ≤ 2147483647 := e_op0 ▸ hW.1 15
  have z_tk0 := tz_f tk0
  have b_tk0 : (0 : Int) ≤ tk0 ∧ tk0 ≤ 5 := e_tk0 ▸ hW.1 11
  intro L Gx Ax n at1 tk1 fk1 nd1 op1 sy1 na1 sa1 ka1 ec gL_0 gL_1 gL_2 hWx hFx hPx hSx hVx ex_at1 ex_tk1 ex_fk1 ex_nd1 ex_op1 ex_sy1 ex_na1 ex_sa1 ex_ka1 ex_ec fx_9 fx_29 rx_n iv_0 iv_1 iv_2 iv_3 iv_4 iv_5 iv_6 iv_7 iv_8 iv_9 iv_10 iv_11 iv_12 iv_13
  have b_at1 : (0 : Int) ≤ at1 ∧ at1 ≤ 3002 := ex_at1 ▸ hWx.1 10
  have z_tk1 := tz_f tk1
  have b_tk1 : (0 : Int) ≤ tk1 ∧ tk1 ≤ 5 := ex_tk1 ▸ hWx.1 11
  have b_fk1 : (0 : Int) ≤ fk1 ∧ fk1 ≤ 6 := ex_fk1 ▸ hWx.1 16
  have b_nd1 : (0 : Int) ≤ nd1 ∧ nd1 ≤ 6999 := ex_nd1 ▸ hWx.1 31
  have b_op1 : (-2147483648 : Int) ≤ op1 ∧ op1 ≤ 2147483647 := ex_op1 ▸ hWx.1 15
  have b_sy1 : (0 : Int) ≤ sy1 ∧ sy1 ≤ 202 := ex_sy1 ▸ hWx.1 19
  have b_na1 : (0 : Int) ≤ na1 ∧ na1 ≤ 200 := ex_na1 ▸ hWx.1 28
  refine jx_ld (pc' := 110) (l' := L) (st' := [.ref 66]) rfl (jl_aloadn gL_0) ?_
  refine jx_ld (pc' := 111) (l' := L) (st' := [.ref 66, .ref 66]) rfl (jl_aloadn gL_0) ?_
  refine jx_ar (pc' := 113) (st' := [.int (i32 (13)), .ref 66, .ref 66]) rfl rfl rfl rfl ?_
  have b120 : (-2147483648 : Int) ≤ Gx 13 ∧ Gx 13 ≤ 2147483647 := hWx.1 13
  refine jx_vr (pc' := 116) (as := [.int (i32 (13))]) (st := [.ref 66]) rfl rfl rfl rfl ⟨rfl, rfl, Nat.le_of_ble_eq_true rfl⟩ rfl rfl (c_isKey (dd := d) (hd := by omega) (hW := hWx) (k := 13) (tk := tk1) (e_tk := show Gx 11 = tk1 from (ex_tk1)) (tn := Gx 13) (e_tn := show Gx 13 = Gx 13 from rfl)  (h_k := ⟨(by decide), (by decide)⟩)  ) (fun o V' hq => ?_)
  obtain ⟨r121, rfl, rfl, b122, q123⟩ := hq
  refine .inr ⟨_, rfl, ?_⟩
  rcases q123 with ⟨rfl, a124, a125, a126⟩ | rfl
  · have _q : True := trivial
    refine jx_vr (pc' := 119) (as := [.int (i32 (1))]) (st := []) rfl rfl rfl rfl ⟨rfl, rfl, Nat.le_of_ble_eq_true rfl⟩ rfl rfl (c_need (dd := d) (hd := by omega) (hW := hWx) (g := 1) (ln := ln) (e_ln := show Gx 9 = ln from (fx_9)) (le := le) (e_le := show Ax 4 (ln).toNat = le from (congrFun (hFx.2 4 rfl) _).trans (e_le)) (at0 := at1) (e_at0 := show Gx 10 = at1 from (ex_at1)) (fk := fk1) (e_fk := show Gx 16 = fk1 from (ex_fk1)) (tk0 := tk1) (e_tk0 := show Gx 11 = tk1 from (ex_tk1))  (h_g := ⟨(by decide), (by decide)⟩)  (p_0 := by omega)) (fun o V' hq => ?_)
    obtain ⟨G127, A128, at2_129, tk2_130, fk2_131, rfl, rfl, hW132, hF133, e134, e135, e136, p137, p138, q139⟩ := hq
    have hF140 := Fr_tr hFx hF133 (Fr_sub (by decide)) (Fr_sub (by decide))
    have hP141 := Pf_f hPx hF133 (by decide)
    have hS142 := Fx_f hSx hF133 (by decide)
    have hV143 := Fx_f hVx hF133 (by decide)
    have sf144 : ND A128 (n) (29) (sa1) (0) (ec) (0) (0) (0) := ND_ag (by omega) (Ag_fr hF133 (by decide)) iv_11
    have bat2_129 : (0 : Int) ≤ at2_129 ∧ at2_129 ≤ 3002 := e134 ▸ hW132.1 10
    have ztk2_130 := tz_b tk2_130
    have btk2_130 : (0 : Int) ≤ tk2_130 ∧ tk2_130 ≤ 5 := e135 ▸ hW132.1 11
    have bfk2_131 : (0 : Int) ≤ fk2_131 ∧ fk2_131 ≤ 6 := e136 ▸ hW132.1 16
    refine .inl ⟨rfl, ?_⟩
    rcases q139 with ⟨a145, a146, a147, a148⟩ | ⟨a149, a150, a151, a152⟩
    · have _q : True := trivial
      have z153 := tz_f (tk2_130)
      exact c_readPar_at_119p (X := X) (k := k) (hP := hP) (d := d) (Vs := Vs) (sb := sb) (pb := pb) (hvb := hvb) (c0 := c0) (c1 := c1) (G := G) (A := A) (T := T) (lv := lv) (ln := ln) (li := li) (at0 := at0) (fk := fk) (nd := nd) (sy := sy) (na := na) (vi := vi) (le := le) (op0 := op0) (tk0 := tk0) (hd := hd) (hW := hW) (e_ln := e_ln) (e_li := e_li) (e_at0 := e_at0) (e_fk := e_fk) (e_nd := e_nd) (e_sy := e_sy) (e_na := e_na) (e_vi := e_vi) (e_le := e_le) (e_op0 := e_op0) (e_tk0 := e_tk0) (i_LT := i_LT) (i_SV := i_SV) (i_PQ := i_PQ) (h_lv := h_lv) (p_0 := p_0) (p_1 := p_1) (p_2 := p_2) (p_3 := p_3) (p_4 := p_4) (p_5 := p_5) (p_6 := p_6) (p_7 := p_7) (p_8 := p_8) (p_9 := p_9) (p_10 := p_10) L G127 A128 (n) (at2_129) (tk2_130) (fk2_131) (nd1) (op1) (sy1) (na1) gL_0 gL_1 gL_2 hW132 hF140 hP141 hS142 hV143 ((e134)) ((e135)) ((e136)) (((hF133.1 31 rfl).trans (ex_nd1))) (((hF133.1 15 rfl).trans (ex_op1))) (((hF133.1 19 rfl).trans (ex_sy1))) (((hF133.1 28 rfl).trans (ex_na1))) (((hF133.1 9 rfl).trans (fx_9))) (((hF133.1 29 rfl).trans (fx_29))) (by omega) (by omega) (by omega) (by omega) (by omega) (by omega) (by omega) (by omega) (by omega)
    · have _q : True := trivial
      refine jx_ld (pc' := 120) (l' := L) (st' := [.ref 66]) rfl (jl_aloadn gL_0) ?_
      refine jr_get (pc' := 123) (i := 37) (v := .ref 87) rfl rfl (by decide) rfl rfl ?_
      refine jx_ld (pc' := 124) (l' := L) (st' := [.int (i32 (n)), .ref 87]) rfl (jl_iloadn gL_2) ?_
      refine jx_ld (pc' := 125) (l' := L) (st' := [.ref 66, .int (i32 (n)), .ref 87]) rfl (jl_aloadn gL_0) ?_
      refine jx_ar (pc' := 126) (st' := [.int (i32 (1)), .ref 66, .int (i32 (n)), .ref 87]) rfl rfl rfl rfl ?_
      refine jx_ar (pc' := 128) (st' := [.int (i32 (8)), .int (i32 (1)), .ref 66, .int (i32 (n)), .ref 87]) rfl rfl rfl rfl ?_
      refine jx_vr (pc' := 131) (as := [.int (i32 (1)), .int (i32 (8))]) (st := [.int (i32 (n)), .ref 87]) rfl rfl rfl rfl ⟨rfl, rfl, Nat.le_of_ble_eq_true rfl⟩ rfl rfl (c_needNumber (dd := d) (hd := by omega) (hW := hW132) (lo := 1) (hi := 8) (ln := ln) (e_ln := show G127 9 = ln from ((hF133.1 9 rfl).trans (fx_9))) (le := le) (e_le := show A128 4 (ln).toNat = le from (congrFun ((hF133.2 4 rfl).trans (hFx.2 4 rfl)) _).trans (e_le)) (at0 := at2_129) (e_at0 := show G127 10 = at2_129 from (e134)) (fk := fk2_131) (e_fk := show G127 16 = fk2_131 from (e136)) (tk0 := tk2_130) (e_tk0 := show G127 11 = tk2_130 from (e135))  (h_lo := ⟨(by decide), (by decide)⟩) (h_hi := ⟨(by decide), (by decide)⟩)  (p_0 := by omega)) (fun o V' hq => ?_)
      obtain ⟨G154, A155, r156, at2_157, tk2_158, fk2_159, rfl, rfl, hW160, hF161, b162, e163, e164, e165, p166, p167, q168⟩ := hq
      have hF169 := Fr_tr hF140 hF161 (Fr_sub (by decide)) (Fr_sub (by decide))
      have hP170 := Pf_f hP141 hF161 (by decide)
      have hS171 := Fx_f hS142 hF161 (by decide)
      have hV172 := Fx_f hV143 hF161 (by decide)
      have sf173 : ND A155 (n) (29) (sa1) (0) (ec) (0) (0) (0) := ND_ag (by omega) (Ag_fr hF161 (by decide)) sf144
      have bat2_157 : (0 : Int) ≤ at2_157 ∧ at2_157 ≤ 3002 := e163 ▸ hW160.1 10
      have ztk2_158 := tz_b tk2_158
      have btk2_158 : (0 : Int) ≤ tk2_158 ∧ tk2_158 ≤ 5 := e164 ▸ hW160.1 11
      have bfk2_159 : (0 : Int) ≤ fk2_159 ∧ fk2_159 ≤ 6 := e165 ▸ hW160.1 16
      refine .inr ⟨_, rfl, ?_⟩
      rcases q168 with ⟨a174, a175, a176, a177⟩ | ⟨a178, a179, a180, a181, a182⟩
      · have _q : True := trivial
        refine jr_st (pc' := 132) (i := 20) (m := 7000) (z := n) (y := r156) rfl (by decide) rfl (by decide) (by omega) (by omega) rfl ?_
        have hW184 : Wk G154 (uA A155 20 (n).toNat (r156)) := Wk_a hW160 (show (-2147483648 : Int) ≤ r156 by omega) (show r156 ≤ (2147483647 : Int) by omega)
        have hF185 := Fr_a (z := r156) (k := 20) (n := (n).toNat) hF169 (by decide)
        obtain ⟨A183, eA183⟩ : ∃ q, q = uA A155 20 (n).toNat (r156) := ⟨_, rfl⟩
        rw [← eA183]
        rw [← eA183] at hW184 hF185
        have q186 : A183 20 (n).toNat = r156 := by rw [eA183]; exact uA_eq
        have hP187 : Pf nd A A183 := eA183 ▸ Pf_a hP170 (z := n) (by omega) (by omega)
        have hS188 : Fx sr (sy) A A183 := eA183 ▸ Fx_n hS171 rfl
        have hV189 : Fx [14] (vi) A A183 := eA183 ▸ Fx_n hV172 rfl
        have sf190 : ND A183 (n) (29) (sa1) (0) (ec) (r156) (0) (0) := ND_d eA183 sf173
        have z191 := tz_f (tk2_158)
        exact c_readPar_at_132p (X := X) (k := k) (hP := hP) (d := d) (Vs := Vs) (sb := sb) (pb := pb) (hvb := hvb) (c0 := c0) (c1 := c1) (G := G) (A := A) (T := T) (lv := lv) (ln := ln) (li := li) (at0 := at0) (fk := fk) (nd := nd) (sy := sy) (na := na) (vi := vi) (le := le) (op0 := op0) (tk0 := tk0) (hd := hd) (hW := hW) (e_ln := e_ln) (e_li := e_li) (e_at0 := e_at0) (e_fk := e_fk) (e_nd := e_nd) (e_sy := e_sy) (e_na := e_na) (e_vi := e_vi) (e_le := e_le) (e_op0 := e_op0) (e_tk0 := e_tk0) (i_LT := i_LT) (i_SV := i_SV) (i_PQ := i_PQ) (h_lv := h_lv) (p_0 := p_0) (p_1 := p_1) (p_2 := p_2) (p_3 := p_3) (p_4 := p_4) (p_5 := p_5) (p_6 := p_6) (p_7 := p_7) (p_8 := p_8) (p_9 := p_9) (p_10 := p_10) L G154 A183 (n) (at2_157) (tk2_158) (fk2_159) (nd1) (op1) (sy1) (na1) gL_0 gL_1 gL_2 hW184 hF185 hP187 hS188 hV189 ((e163)) ((e164)) ((e165)) (((hF161.1 31 rfl).trans ((hF133.1 31 rfl).trans (ex_nd1)))) (((hF161.1 15 rfl).trans ((hF133.1 15 rfl).trans (ex_op1)))) (((hF161.1 19 rfl).trans ((hF133.1 19 rfl).trans (ex_sy1)))) (((hF161.1 28 rfl).trans ((hF133.1 28 rfl).trans (ex_na1)))) (((hF161.1 9 rfl).trans ((hF133.1 9 rfl).trans (fx_9)))) (((hF161.1 29 rfl).trans ((hF133.1 29 rfl).trans (fx_29)))) (by omega) (by omega) (by omega) (by omega) (by omega) (by omega) (by omega) (by omega) (by omega)
      · have _q : True := trivial
        refine jr_st (pc' := 132) (i := 20) (m := 7000) (z := n) (y := r156) rfl (by decide) rfl (by decide) (by omega) (by omega) rfl ?_
        have hW193 : Wk G154 (uA A155 20 (n).toNat (r156)) := Wk_a hW160 (show (-2147483648 : Int) ≤ r156 by omega) (show r156 ≤ (2147483647 : Int) by omega)
        have hF194 := Fr_a (z := r156) (k := 20) (n := (n).toNat) hF169 (by decide)
        obtain ⟨A192, eA192⟩ : ∃ q, q = uA A155 20 (n).toNat (r156) := ⟨_, rfl⟩
        rw [← eA192]
        rw [← eA192] at hW193 hF194
        have q195 : A192 20 (n).toNat = r156 := by rw [eA192]; exact uA_eq
        have hP196 : Pf nd A A192 := eA192 ▸ Pf_a hP170 (z := n) (by omega) (by omega)
        have hS197 : Fx sr (sy) A A192 := eA192 ▸ Fx_n hS171 rfl
        have hV198 : Fx [14] (vi) A A192 := eA192 ▸ Fx_n hV172 rfl
        have sf199 : ND A192 (n) (29) (sa1) (0) (ec) (r156) (0) (0) := ND_d eA192 sf173
        refine jx_ld (pc' := 133) (l' := L) (st' := [.ref 66]) rfl (jl_aloadn gL_0) ?_
        refine jx_vr (pc' := 136) (as := []) (st := []) rfl rfl rfl rfl ⟨rfl, rfl, Nat.le_of_ble_eq_true rfl⟩ rfl rfl (c_endLine (dd := d) (hd := by omega) (hW := hW193)  (ln := ln) (e_ln := show G154 9 = ln from ((hF161.1 9 rfl).trans ((hF133.1 9 rfl).trans (fx_9)))) (li := li) (e_li := show G154 3 = li from ((hF161.1 3 rfl).trans ((hF133.1 3 rfl).trans ((hFx.1 3 rfl).trans (e_li))))) (fk := fk2_159) (e_fk := show G154 16 = fk2_159 from (e165)) (tk0 := tk2_158) (e_tk0 := show G154 11 = tk2_158 from (e164))    (p_0 := by omega)) (fun o V' hq => ?_)
        obtain ⟨G200, A201, ln2_202, fk2_203, rfl, rfl, hW204, hF205, e206, e207, q208⟩ := hq
        have hF209 := Fr_tr hF194 hF205 (Fr_sub (by decide)) (Fr_sub (by decide))
        have hP210 := Pf_f hP196 hF205 (by decide)
        have hS211 := Fx_f hS197 hF205 (by decide)
        have hV212 := Fx_f hV198 hF205 (by decide)
        have sf213 : ND A201 (n) (29) (sa1) (0) (ec) (r156) (0) (0) := ND_ag (by omega) (Ag_fr hF205 (by decide)) sf199
        have bln2_202 : (0 : Int) ≤ ln2_202 ∧ ln2_202 ≤ 3000 := e206 ▸ hW204.1 9
        have bfk2_203 : (0 : Int) ≤ fk2_203 ∧ fk2_203 ≤ 6 := e207 ▸ hW204.1 16
        refine .inl ⟨rfl, ?_⟩
        rcases q208 with ⟨a214, a215, a216, a217, a218⟩ | ⟨a219, a220⟩
        · have _q : True := trivial
          have b221 : (0 : Int) ≤ A 3 (ln2_202).toNat ∧ A 3 (ln2_202).toNat ≤ 3000 := hW.2 3 _
          have lt222 : ln2_202 < li → le < A 3 (ln2_202).toNat := fun hh => LT_nx (LT_ext (((hF205.1 3 rfl).trans ((hF161.1 3 rfl).trans ((hF133.1 3 rfl).trans (hFx.1 3 rfl))))) (((hF205.2 3 rfl).trans (((congrFun eA192 3).trans (uA_ne (by decide))).trans ((hF161.2 3 rfl).trans ((hF133.2 3 rfl).trans (hFx.2 3 rfl)))))) (((hF205.2 4 rfl).trans (((congrFun eA192 4).trans (uA_ne (by decide))).trans ((hF161.2 4 rfl).trans ((hF133.2 4 rfl).trans (hFx.2 4 rfl)))))) i_LT) (show G200 3 = li from ((hF205.1 3 rfl).trans ((hF161.1 3 rfl).trans ((hF133.1 3 rfl).trans ((hFx.1 3 rfl).trans (e_li)))))) (show A201 4 (ln).toNat = le from (congrFun ((hF205.2 4 rfl).trans (((congrFun eA192 4).trans (uA_ne (by decide))).trans ((hF161.2 4 rfl).trans ((hF133.2 4 rfl).trans (hFx.2 4 rfl))))) _).trans (e_le)) (show A201 3 (ln2_202).toNat = A 3 (ln2_202).toNat from (congrFun ((hF205.2 3 rfl).trans (((congrFun eA192 3).trans (uA_ne (by decide))).trans ((hF161.2 3 rfl).trans ((hF133.2 3 rfl).trans (hFx.2 3 rfl))))) _)) (show ln2_202 = ln + 1 by omega) (by omega) hh
          refine jx_ld (pc' := 137) (l' := L) (st' := [.ref 66]) rfl (jl_aloadn gL_0) ?_
          refine jx_ld (pc' := 138) (l' := L) (st' := [.int (i32 (n)), .ref 66]) rfl (jl_iloadn gL_2) ?_
          refine jx_ld (pc' := 139) (l' := L) (st' := [.int (i32 (lv)), .int (i32 (n)), .ref 66]) rfl (jl_iloadn gL_1) ?_
          refine jx_vr (pc' := 142) (as := [.int (i32 (n)), .int (i32 (lv))]) (st := []) rfl rfl rfl rfl ⟨rfl, rfl, Nat.le_of_ble_eq_true rfl⟩ rfl rfl (c_readIndexed (dd := d) (hP := hP) (zz := nd) (hd := by omega) (hW := hW204) (n := n) (lv := lv) (kk := 29) (bb := 0) (cc := ec) (de := r156) (xx := 0) (ln := ln2_202) (e_ln := show G200 9 = ln2_202 from (e206)) (li := li) (e_li := show G200 3 = li from ((hF205.1 3 rfl).trans ((hF161.1 3 rfl).trans ((hF133.1 3 rfl).trans ((hFx.1 3 rfl).trans (e_li)))))) (at0 := at2_157) (e_at0 := show G200 10 = at2_157 from ((hF205.1 10 rfl).trans (e163))) (fk := fk2_203) (e_fk := show G200 16 = fk2_203 from (e207)) (nd := nd1) (e_nd := show G200 31 = nd1 from ((hF205.1 31 rfl).trans ((hF161.1 31 rfl).trans ((hF133.1 31 rfl).trans (ex_nd1))))) (sy := sy1) (e_sy := show G200 19 = sy1 from ((hF205.1 19 rfl).trans ((hF161.1 19 rfl).trans ((hF133.1 19 rfl).trans (ex_sy1))))) (na := na1) (e_na := show G200 28 = na1 from ((hF205.1 28 rfl).trans ((hF161.1 28 rfl).trans ((hF133.1 28 rfl).trans (ex_na1))))) (vi := vi) (e_vi := show G200 29 = vi from ((hF205.1 29 rfl).trans ((hF161.1 29 rfl).trans ((hF133.1 29 rfl).trans (fx_29))))) (lf := A 3 (ln2_202).toNat) (e_lf := show A201 3 (ln2_202).toNat = A 3 (ln2_202).toNat from (congrFun ((hF205.2 3 rfl).trans (((congrFun eA192 3).trans (uA_ne (by decide))).trans ((hF161.2 3 rfl).trans ((hF133.2 3 rfl).trans (hFx.2 3 rfl))))) _)) (sa := sa1) (e_sa := show A201 17 (n).toNat = sa1 from (congrFun ((hF205.2 17 rfl).trans (((congrFun eA192 17).trans (uA_ne (by decide))).trans ((hF161.2 17 rfl).trans (hF133.2 17 rfl)))) _).trans (ex_sa1)) (ksa := ka1) (e_ksa := show A201 7 (sa1).toNat = ka1 from (congrFun ((hF205.2 7 rfl).trans (((congrFun eA192 7).trans (uA_ne (by decide))).trans ((hF161.2 7 rfl).trans (hF133.2 7 rfl)))) _).trans (ex_ka1)) (i_LT := (LT_ext (((hF205.1 3 rfl).trans ((hF161.1 3 rfl).trans ((hF133.1 3 rfl).trans (hFx.1 3 rfl))))) (((hF205.2 3 rfl).trans (((congrFun eA192 3).trans (uA_ne (by decide))).trans ((hF161.2 3 rfl).trans ((hF133.2 3 rfl).trans (hFx.2 3 rfl)))))) (((hF205.2 4 rfl).trans (((congrFun eA192 4).trans (uA_ne (by decide))).trans ((hF161.2 4 rfl).trans ((hF133.2 4 rfl).trans (hFx.2 4 rfl)))))) i_LT)) (i_SV := (SV_fx i_SV e_vi (show G200 29 = vi from ((hF205.1 29 rfl).trans ((hF161.1 29 rfl).trans ((hF133.1 29 rfl).trans (fx_29))))) (by omega) hV212)) (i_PQ := (PQ_fx i_PQ hS211 (by omega) (hF209.2 29 rfl) (hF209.2 30 rfl))) (hvb := hvb) (h_n := ⟨(Int.le_trans (by decide : (-2147483648 : Int) ≤ -2147483648) rx_n.1), (Int.le_trans rx_n.2 (by decide : (2147483647 : Int) ≤ 2147483647))⟩) (h_lv := ⟨(Int.le_trans (by decide : (-2147483648 : Int) ≤ -2147483648) h_lv.1), (Int.le_trans h_lv.2 (by decide : (2147483647 : Int) ≤ 2147483647))⟩)  (p_0 := by omega) (p_1 := by omega) (p_2 := by omega) (p_3 := by omega) (p_4 := by omega) (p_5 := by omega) (p_6 := by omega) (p_7 := by omega) (p_8 := by omega) (p_9 := by omega) (p_10 := by omega) (p_11 := by omega) (p_12 := by omega) (p_13 := by omega) (p_14 := by omega) (p_15 := by omega) (p_16 := sf213)) (fun o V' hq => ?_)
          obtain ⟨G223, A224, ln2_225, at2_226, fk2_227, nd2_228, sy2_229, na2_230, vi2_231, lf2_232, f2_233, rfl, rfl, hW234, hF235, hQ236, hQ237, hQ238, hQ239, e240, e241, e242, e243, e244, e245, e246, e247, e248, p249, p250, p251, p252, p253, p254, p255, q256⟩ := hq
          have hF257 := Fr_tr hF209 hF235 (Fr_sub (by decide)) (Fr_sub (by decide))
          have hP258 := Pf_tr hP210 hQ236 (by omega)
          have hS259 := Fx_tr hS211 hQ238 (by omega)
          have hV260 := Fx_tr hV212 hQ239 (by omega)
          have k261 : A224 7 (sa1).toNat = ka1 := (hQ238 7 _ rfl (by omega)).trans (show A201 7 (sa1).toNat = ka1 from (congrFun ((hF205.2 7 rfl).trans (((congrFun eA192 7).trans (uA_ne (by decide))).trans ((hF161.2 7 rfl).trans (hF133.2 7 rfl)))) _).trans (ex_ka1))
          have bln2_225 : (0 : Int) ≤ ln2_225 ∧ ln2_225 ≤ 3000 := e240 ▸ hW234.1 9
          have bat2_226 : (0 : Int) ≤ at2_226 ∧ at2_226 ≤ 3002 := e241 ▸ hW234.1 10
          have bfk2_227 : (0 : Int) ≤ fk2_227 ∧ fk2_227 ≤ 6 := e242 ▸ hW234.1 16
          have bnd2_228 : (0 : Int) ≤ nd2_228 ∧ nd2_228 ≤ 6999 := e243 ▸ hW234.1 31
          have bsy2_229 : (0 : Int) ≤ sy2_229 ∧ sy2_229 ≤ 202 := e244 ▸ hW234.1 19
          have bna2_230 : (0 : Int) ≤ na2_230 ∧ na2_230 ≤ 200 := e245 ▸ hW234.1 28
          have bvi2_231 : (0 : Int) ≤ vi2_231 ∧ vi2_231 ≤ 202 := e246 ▸ hW234.1 29
          have blf2_232 : (0 : Int) ≤ lf2_232 ∧ lf2_232 ≤ 3000 := e247 ▸ hW234.2 3 _
          have bf2_233 : (-2147483648 : Int) ≤ f2_233 ∧ f2_233 ≤ 2147483647 := e248 ▸ hW234.2 21 _
          refine .inr ⟨_, rfl, ?_⟩
          rcases q256 with ⟨a262, a263⟩ | ⟨a264, a265, a266, a267, a268, a269⟩
          · have _q : True := trivial
            refine jx_rt (v := some (.int (i32 (n)))) rfl rfl rfl rfl rfl rfl ?_
            exact ⟨_, _, _, ln2_225, at2_226, fk2_227, nd2_228, sy2_229, na2_230, vi2_231, lf2_232, rfl, rfl, hW234, hF257, hP258, hS259, hV260, by omega, (e240), (e241), (e242), (e243), (e244), (e245), (e246), (e247), by omega, by omega, by omega, by omega, by omega, by omega, by omega, by omega, by omega, by omega, by first | exact Or.inl (⟨by omega, by omega⟩)⟩
          · have _q : True := trivial
            refine jx_rt (v := some (.int (i32 (n)))) rfl rfl rfl rfl rfl rfl ?_
            exact ⟨_, _, _, ln2_225, at2_226, fk2_227, nd2_228, sy2_229, na2_230, vi2_231, lf2_232, rfl, rfl, hW234, hF257, hP258, hS259, hV260, by omega, (e240), (e241), (e242), (e243), (e244), (e245), (e246), (e247), by omega, by omega, by omega, by omega, by omega, by omega, by omega, by omega, by omega, by omega, by first | exact Or.inr ((⟨by omega, by omega, by omega, by omega, by omega, by omega, by omega, (wS_parfor (ND_ae a268 (by omega : sa1 = sy)) (by omega) (by rw [← (by omega : sa1 = sy)]; exact (show A224 7 (sa1).toNat = ka1 from (k261)).trans (by omega)) (by omega) (by omega) (by omega) (by omega) (wP_vu (by omega : sa1 = sy) (wP_eq a269 (by omega) rfl (by omega) (by omega) (by omega) (by omega) (by omega) (by omega)))), (NX_nd a268)⟩))⟩
        · have _q : True := trivial
          refine jx_ld (pc' := 137) (l' := L) (st' := [.ref 66]) rfl (jl_aloadn gL_0) ?_
          refine jx_ld (pc' := 138) (l' := L) (st' := [.int (i32 (n)), .ref 66]) rfl (jl_iloadn gL_2) ?_
          refine jx_ld (pc' := 139) (l' := L) (st' := [.int (i32 (lv)), .int (i32 (n)), .ref 66]) rfl (jl_iloadn gL_1) ?_
          refine jx_vr (pc' := 142) (as := [.int (i32 (n)), .int (i32 (lv))]) (st := []) rfl rfl rfl rfl ⟨rfl, rfl, Nat.le_of_ble_eq_true rfl⟩ rfl rfl (c_readIndexed_f (dd := d) (hd := by omega) (hW := hW204) (n := n) (lv := lv) (fk := fk2_203) (e_fk := show G200 16 = fk2_203 from (e207))  (h_n := ⟨(Int.le_trans (by decide : (-2147483648 : Int) ≤ -2147483648) rx_n.1), (Int.le_trans rx_n.2 (by decide : (2147483647 : Int) ≤ 2147483647))⟩) (h_lv := ⟨(Int.le_trans (by decide : (-2147483648 : Int) ≤ -2147483648) h_lv.1), (Int.le_trans h_lv.2 (by decide : (2147483647 : Int) ≤ 2147483647))⟩)  (p_0 := by omega)) (fun o V' hq => ?_)
          obtain ⟨r270, rfl, rfl, b271, p272, -⟩ := hq
          refine .inr ⟨_, rfl, ?_⟩
          refine jx_rt (v := some (.int (i32 (r270)))) rfl rfl rfl rfl rfl rfl ?_
          exact ⟨_, _, _, ln2_202, at2_157, fk2_203, nd1, sy1, na1, vi, A 3 (ln2_202).toNat, rfl, rfl, hW204, hF209, hP210, hS211, hV212, by omega, (e206), ((hF205.1 10 rfl).trans (e163)), (e207), ((hF205.1 31 rfl).trans ((hF161.1 31 rfl).trans ((hF133.1 31 rfl).trans (ex_nd1)))), ((hF205.1 19 rfl).trans ((hF161.1 19 rfl).trans ((hF133.1 19 rfl).trans (ex_sy1)))), ((hF205.1 28 rfl).trans ((hF161.1 28 rfl).trans ((hF133.1 28 rfl).trans (ex_na1)))), ((hF205.1 29 rfl).trans ((hF161.1 29 rfl).trans ((hF133.1 29 rfl).trans (fx_29)))), (congrFun ((hF205.2 3 rfl).trans (((congrFun eA192 3).trans (uA_ne (by decide))).trans ((hF161.2 3 rfl).trans ((hF133.2 3 rfl).trans (hFx.2 3 rfl))))) _), by omega, by omega, by omega, by omega, by omega, by omega, by omega, by omega, by omega, by omega, by first | exact Or.inl (⟨by omega, by omega⟩)⟩
  · have _q : True := trivial
    refine jx_vr (pc' := 119) (as := [.int (i32 (0))]) (st := []) rfl rfl rfl rfl ⟨rfl, rfl, Nat.le_of_ble_eq_true rfl⟩ rfl rfl (c_need (dd := d) (hd := by omega) (hW := hWx) (g := 0) (ln := ln) (e_ln := show Gx 9 = ln from (fx_9)) (le := le) (e_le := show Ax 4 (ln).toNat = le from (congrFun (hFx.2 4 rfl) _).trans (e_le)) (at0 := at1) (e_at0 := show Gx 10 = at1 from (ex_at1)) (fk := fk1) (e_fk := show Gx 16 = fk1 from (ex_fk1)) (tk0 := tk1) (e_tk0 := show Gx 11 = tk1 from (ex_tk1))  (h_g := ⟨(by decide), (by decide)⟩)  (p_0 := by omega)) (fun o V' hq => ?_)
    obtain ⟨G274, A275, at2_276, tk2_277, fk2_278, rfl, rfl, hW279, hF280, e281, e282, e283, p284, p285, q286⟩ := hq
    have hF287 := Fr_tr hFx hF280 (Fr_sub (by decide)) (Fr_sub (by decide))
    have hP288 := Pf_f hPx hF280 (by decide)
    have hS289 := Fx_f hSx hF280 (by decide)
    have hV290 := Fx_f hVx hF280 (by decide)
    have sf291 : ND A275 (n) (29) (sa1) (0) (ec) (0) (0) (0) := ND_ag (by omega) (Ag_fr hF280 (by decide)) iv_11
    have bat2_276 : (0 : Int) ≤ at2_276 ∧ at2_276 ≤ 3002 := e281 ▸ hW279.1 10
    have ztk2_277 := tz_b tk2_277
    have btk2_277 : (0 : Int) ≤ tk2_277 ∧ tk2_277 ≤ 5 := e282 ▸ hW279.1 11
    have bfk2_278 : (0 : Int) ≤ fk2_278 ∧ fk2_278 ≤ 6 := e283 ▸ hW279.1 16
    refine .inl ⟨rfl, ?_⟩
    rcases q286 with ⟨a292, a293, a294, a295⟩ | ⟨a296, a297, a298, a299⟩
    · have _q : True := trivial
      have z300 := tz_f (tk2_277)
      exact c_readPar_at_119p (X := X) (k := k) (hP := hP) (d := d) (Vs := Vs) (sb := sb) (pb := pb) (hvb := hvb) (c0 := c0) (c1 := c1) (G := G) (A := A) (T := T) (lv := lv) (ln := ln) (li := li) (at0 := at0) (fk := fk) (nd := nd) (sy := sy) (na := na) (vi := vi) (le := le) (op0 := op0) (tk0 := tk0) (hd := hd) (hW := hW) (e_ln := e_ln) (e_li := e_li) (e_at0 := e_at0) (e_fk := e_fk) (e_nd := e_nd) (e_sy := e_sy) (e_na := e_na) (e_vi := e_vi) (e_le := e_le) (e_op0 := e_op0) (e_tk0 := e_tk0) (i_LT := i_LT) (i_SV := i_SV) (i_PQ := i_PQ) (h_lv := h_lv) (p_0 := p_0) (p_1 := p_1) (p_2 := p_2) (p_3 := p_3) (p_4 := p_4) (p_5 := p_5) (p_6 := p_6) (p_7 := p_7) (p_8 := p_8) (p_9 := p_9) (p_10 := p_10) L G274 A275 (n) (at2_276) (tk2_277) (fk2_278) (nd1) (op1) (sy1) (na1) gL_0 gL_1 gL_2 hW279 hF287 hP288 hS289 hV290 ((e281)) ((e282)) ((e283)) (((hF280.1 31 rfl).trans (ex_nd1))) (((hF280.1 15 rfl).trans (ex_op1))) (((hF280.1 19 rfl).trans (ex_sy1))) (((hF280.1 28 rfl).trans (ex_na1))) (((hF280.1 9 rfl).trans (fx_9))) (((hF280.1 29 rfl).trans (fx_29))) (by omega) (by omega) (by omega) (by omega) (by omega) (by omega) (by omega) (by omega) (by omega)
    · have _q : True := trivial
      exfalso
      omega
set_option maxRecDepth 20000 in
set_option maxHeartbeats 4000000 in
theorem c_readPar_at_95p {X : jX} {k : Nat} (hP : RP X k) {d : Nat} {Vs : Nat → Prop} {sb pb : Int} (hvb : VB Vs sb) {c0 c1 : jC} {G : Nat → Int} {A : Nat → Nat → Int} {T : jH} {lv : Int} {ln li at0 fk nd sy na vi le op0 tk0 : Int} (hd : 8 * k + 82 ≤ d + 1) (hW : Wk G A) (e_ln : G 9 = ln) (e_li : G 3 = li) (e_at0 : G 10 = at0) (e_fk : G 16 = fk) (e_nd : G 31 = nd) (e_sy : G 19 = sy) (e_na : G 28 = na) (e_vi : G 29 = vi) (e_le : A 4 (ln).toNat = le) (e_op0 : G 15 = op0) (e_tk0 : G 11 = tk0) (i_LT : LT G A) (i_SV : SV Vs sb G A) (i_PQ : PQ Vs sb pb G A) (h_lv : (-2147483648 : Int) ≤ lv ∧ lv ≤ 2147483647) (p_0 : 0 ≤ lv ∧ lv ≤ 15) (p_1 : 18 - lv ≤ ((k + 1 : Nat) : Int)) (p_2 : fk = 0) (p_3 : ln < li) (p_4 : at0 ≤ le) (p_5 : op0 = 0) (p_6 : nd ≤ 2 * at0 - tz tk0 + 30) (p_7 : sy ≤ na + 2) (p_8 : vi ≤ sy) (p_9 : sb = sy) (p_10 : 1 ≤ tk0) : ∀ (L : jL) (Gx : Nat → Int) (Ax : Nat → Nat → Int) (n at1 tk1 fk1 nd1 op1 sy1 na1 : Int), jGet L 0 = some (.ref 66) → jGet L 1 = some (.int (i32 (lv))) → jGet L 2 = some (.int (i32 n)) → Wk Gx Ax → Fr [9, 10, 11, 12, 13, 14, 15, 16, 17, 18, 19, 28, 29, 31] [6, 7, 8, 9, 10, 11, 12, 14, 15, 16, 17, 18, 19, 20, 21, 22, 23, 24, 28] G A Gx Ax → Pf nd A Ax → Fx sr (sy) A Ax → Fx [14] (vi) A Ax → Gx 10 = at1 → Gx 11 = tk1 → Gx 16 = fk1 → Gx 31 = nd1 → Gx 15 = op1 → Gx 19 = sy1 → Gx 28 = na1 → Gx 9 = ln → Gx 29 = vi → ((-2147483648 : Int) ≤ n ∧ n ≤ 2147483647) → (1 ≤ fk1) → (at0 ≤ at1) → (at1 ≤ le) → (nd ≤ n ∧ n ≤ 6998 ∧ n < nd1) → (sy ≤ sy1) → (sy1 ≤ na1 + 2) → (0 ≤ op1 ∧ op1 ≤ 9) → (nd1 - nd ≤ 2 * at1 - 2 * at0 + 8) → wj X d jm299 (95, L, [], rV c0 c1 Gx Ax T) (fun o V' => ∃ (G' : Nat → Int) (A' : Nat → Nat → Int) (r : Int) (ln2 : Int) (at2 : Int) (fk2 : Int) (nd2 : Int) (sy2 : Int) (na2 : Int) (vi2 : Int) (lf2 : Int), V' = rV c0 c1 G' A' T ∧ o = .inl (some (.int (i32 r))) ∧ Wk G' A' ∧ Fr [9, 10, 11, 12, 13, 14, 15, 16, 17, 18, 19, 28, 29, 31] [6, 7, 8, 9, 10, 11, 12, 14, 15, 16, 17, 18, 19, 20, 21, 22, 23, 24, 28] G A G' A' ∧ Pf nd A A' ∧ Fx sr (sy) A A' ∧ Fx [14] (vi) A A' ∧ ((-2147483648 : Int) ≤ r ∧ r ≤ 2147483647) ∧ G' 9 = ln2 ∧ G' 10 = at2 ∧ G' 16 = fk2 ∧ G' 31 = nd2 ∧ G' 19 = sy2 ∧ G' 28 = na2 ∧ G' 29 = vi2 ∧ A' 3 (ln2).toNat = lf2 ∧ (at0 ≤ at2) ∧ (nd ≤ nd2) ∧ (sy ≤ sy2) ∧ (sy2 ≤ na2 + 2) ∧ (vi ≤ vi2) ∧ (vi2 ≤ vi + 1) ∧ (0 ≤ r) ∧ (r ≤ 6999) ∧ (ln ≤ ln2) ∧ (ln2 ≤ li) ∧ (((1 ≤ fk2) ∧ (nd2 - nd ≤ 2 * at2 - (2 * at0 - tz tk0) + 14)) ∨ ((fk2 = 0) ∧ (vi2 = vi) ∧ (ln < ln2) ∧ (nd2 - nd ≤ 2 * at2 - (2 * at0 - tz tk0)) ∧ (at2 < lf2 ∨ li ≤ ln2) ∧ (nd ≤ r) ∧ (r < nd2) ∧ (wSt A' (sy2) pb (wP A' (sy2) pb (k)) (Vs) (r) (nd) (nd2) (sy) (sy2)) ∧ (NX A' (r))))) := by
  have hF0 : Fr [9, 10, 11, 12, 13, 14, 15, 16, 17, 18, 19, 28, 29, 31] [6, 7, 8, 9, 10, 11, 12, 14, 15, 16, 17, 18, 19, 20, 21, 22, 23, 24, 28] G A G A := Fr_rf
  have hP0 : Pf nd A A := Pf_rf
  have hS0 : Fx sr (sy) A A := Fx_rf
  have hV0 : Fx [14] (vi) A A := Fx_rf
  have b_ln : (0 : Int) ≤ ln ∧ ln ≤ 3000 := e_ln ▸ hW.1 9
  have b_li : (0 : Int) ≤ li ∧ li ≤ 3000 := e_li ▸ hW.1 3
  have b_at0 : (0 : Int) ≤ at0 ∧ at0 ≤ 3002 := e_at0 ▸ hW.1 10
  have b_fk : (0 : Int) ≤ fk ∧ fk ≤ 6 := e_fk ▸ hW.1 16
  have b_nd : (0 : Int) ≤ nd ∧ nd ≤ 6999 := e_nd ▸ hW.1 31
  have b_sy : (0 : Int) ≤ sy ∧ sy ≤ 202 := e_sy ▸ hW.1 19
  have b_na : (0 : Int) ≤ na ∧ na ≤ 200 := e_na ▸ hW.1 28
  have b_vi : (0 : Int) ≤ vi ∧ vi ≤ 202 := e_vi ▸ hW.1 29
  have b_le : (0 : Int) ≤ le ∧ le ≤ 3000 := e_le ▸ hW.2 4 _
  have b_op0 : (-2147483648 : Int) ≤ op0 ∧ op0 ≤ 2147483647 := e_op0 ▸ hW.1 15
  have z_tk0 := tz_f tk0
  have b_tk0 : (0 : Int) ≤ tk0 ∧ tk0 ≤ 5 := e_tk0 ▸ hW.1 11
  intro L Gx Ax n at1 tk1 fk1 nd1 op1 sy1 na1 gL_0 gL_1 gL_2 hWx hFx hPx hSx hVx ex_at1 ex_tk1 ex_fk1 ex_nd1 ex_op1 ex_sy1 ex_na1 fx_9 fx_29 rx_n iv_0 iv_1 iv_2 iv_3 iv_4 iv_5 iv_6 iv_7
  have b_at1 : (0 : Int) ≤ at1 ∧ at1 ≤ 3002 := ex_at1 ▸ hWx.1 10
  have z_tk1 := tz_f tk1
  have b_tk1 : (0 : Int) ≤ tk1 ∧ tk1 ≤ 5 := ex_tk1 ▸ hWx.1 11
  have b_fk1 : (0 : Int) ≤ fk1 ∧ fk1 ≤ 6 := ex_fk1 ▸ hWx.1 16
  have b_nd1 : (0 : Int) ≤ nd1 ∧ nd1 ≤ 6999 := ex_nd1 ▸ hWx.1 31
  have b_op1 : (-2147483648 : Int) ≤ op1 ∧ op1 ≤ 2147483647 := ex_op1 ▸ hWx.1 15
  have b_sy1 : (0 : Int) ≤ sy1 ∧ sy1 ≤ 202 := ex_sy1 ▸ hWx.1 19
  have b_na1 : (0 : Int) ≤ na1 ∧ na1 ≤ 200 := ex_na1 ▸ hWx.1 28
  refine jx_ld (pc' := 96) (l' := L) (st' := [.ref 66]) rfl (jl_aloadn gL_0) ?_
  refine jr_get (pc' := 99) (i := 36) (v := .ref 86) rfl rfl (by decide) rfl rfl ?_
  refine jx_ld (pc' := 100) (l' := L) (st' := [.int (i32 (n)), .ref 86]) rfl (jl_iloadn gL_2) ?_
  refine jx_ld (pc' := 101) (l' := L) (st' := [.ref 66, .int (i32 (n)), .ref 86]) rfl (jl_aloadn gL_0) ?_
  refine jx_ar (pc' := 102) (st' := [.int (i32 (0)), .ref 66, .int (i32 (n)), .ref 86]) rfl rfl rfl rfl ?_
  refine jx_hp (pc' := 105) (st' := [.int (i32 (2147483647)), .int (i32 (0)), .ref 66, .int (i32 (n)), .ref 86]) rfl rfl rfl rfl rfl rfl ?_
  refine jx_vr (pc' := 108) (as := [.int (i32 (0)), .int (i32 (2147483647))]) (st := [.int (i32 (n)), .ref 86]) rfl rfl rfl rfl ⟨rfl, rfl, Nat.le_of_ble_eq_true rfl⟩ rfl rfl (c_needNumber (dd := d) (hd := by omega) (hW := hWx) (lo := 0) (hi := 2147483647) (ln := ln) (e_ln := show Gx 9 = ln from (fx_9)) (le := le) (e_le := show Ax 4 (ln).toNat = le from (congrFun (hFx.2 4 rfl) _).trans (e_le)) (at0 := at1) (e_at0 := show Gx 10 = at1 from (ex_at1)) (fk := fk1) (e_fk := show Gx 16 = fk1 from (ex_fk1)) (tk0 := tk1) (e_tk0 := show Gx 11 = tk1 from (ex_tk1))  (h_lo := ⟨(by decide), (by decide)⟩) (h_hi := ⟨(by decide), (by decide)⟩)  (p_0 := by omega)) (fun o V' hq => ?_)
  obtain ⟨G301, A302, r303, at2_304, tk2_305, fk2_306, rfl, rfl, hW307, hF308, b309, e310, e311, e312, p313, p314, q315⟩ := hq
  have hF316 := Fr_tr hFx hF308 (Fr_sub (by decide)) (Fr_sub (by decide))
  have hP317 := Pf_f hPx hF308 (by decide)
  have hS318 := Fx_f hSx hF308 (by decide)
  have hV319 := Fx_f hVx hF308 (by decide)
  have bat2_304 : (0 : Int) ≤ at2_304 ∧ at2_304 ≤ 3002 := e310 ▸ hW307.1 10
  have ztk2_305 := tz_b tk2_305
  have btk2_305 : (0 : Int) ≤ tk2_305 ∧ tk2_305 ≤ 5 := e311 ▸ hW307.1 11
  have bfk2_306 : (0 : Int) ≤ fk2_306 ∧ fk2_306 ≤ 6 := e312 ▸ hW307.1 16
  refine .inr ⟨_, rfl, ?_⟩
  rcases q315 with ⟨a320, a321, a322, a323⟩ | ⟨a324, a325, a326, a327, a328⟩
  · have _q : True := trivial
    refine jr_st (pc' := 109) (i := 19) (m := 7000) (z := n) (y := r303) rfl (by decide) rfl (by decide) (by omega) (by omega) rfl ?_
    have hW330 : Wk G301 (uA A302 19 (n).toNat (r303)) := Wk_a hW307 (show (-2147483648 : Int) ≤ r303 by omega) (show r303 ≤ (2147483647 : Int) by omega)
    have hF331 := Fr_a (z := r303) (k := 19) (n := (n).toNat) hF316 (by decide)
    obtain ⟨A329, eA329⟩ : ∃ q, q = uA A302 19 (n).toNat (r303) := ⟨_, rfl⟩
    rw [← eA329]
    rw [← eA329] at hW330 hF331
    have q332 : A329 19 (n).toNat = r303 := by rw [eA329]; exact uA_eq
    have hP333 : Pf nd A A329 := eA329 ▸ Pf_a hP317 (z := n) (by omega) (by omega)
    have hS334 : Fx sr (sy) A A329 := eA329 ▸ Fx_n hS318 rfl
    have hV335 : Fx [14] (vi) A A329 := eA329 ▸ Fx_n hV319 rfl
    have z336 := tz_f (tk2_305)
    exact c_readPar_at_109p (X := X) (k := k) (hP := hP) (d := d) (Vs := Vs) (sb := sb) (pb := pb) (hvb := hvb) (c0 := c0) (c1 := c1) (G := G) (A := A) (T := T) (lv := lv) (ln := ln) (li := li) (at0 := at0) (fk := fk) (nd := nd) (sy := sy) (na := na) (vi := vi) (le := le) (op0 := op0) (tk0 := tk0) (hd := hd) (hW := hW) (e_ln := e_ln) (e_li := e_li) (e_at0 := e_at0) (e_fk := e_fk) (e_nd := e_nd) (e_sy := e_sy) (e_na := e_na) (e_vi := e_vi) (e_le := e_le) (e_op0 := e_op0) (e_tk0 := e_tk0) (i_LT := i_LT) (i_SV := i_SV) (i_PQ := i_PQ) (h_lv := h_lv) (p_0 := p_0) (p_1 := p_1) (p_2 := p_2) (p_3 := p_3) (p_4 := p_4) (p_5 := p_5) (p_6 := p_6) (p_7 := p_7) (p_8 := p_8) (p_9 := p_9) (p_10 := p_10) L G301 A329 (n) (at2_304) (tk2_305) (fk2_306) (nd1) (op1) (sy1) (na1) gL_0 gL_1 gL_2 hW330 hF331 hP333 hS334 hV335 ((e310)) ((e311)) ((e312)) (((hF308.1 31 rfl).trans (ex_nd1))) (((hF308.1 15 rfl).trans (ex_op1))) (((hF308.1 19 rfl).trans (ex_sy1))) (((hF308.1 28 rfl).trans (ex_na1))) (((hF308.1 9 rfl).trans (fx_9))) (((hF308.1 29 rfl).trans (fx_29))) (by omega) (by omega) (by omega) (by omega) (by omega) (by omega) (by omega) (by omega) (by omega)
  · have _q : True := trivial
    exfalso
    omega
set_option maxRecDepth 20000 in
set_option maxHeartbeats 4000000 in
theorem c_readPar_at_95 {X : jX} {k : Nat} (hP : RP X k) {d : Nat} {Vs : Nat → Prop} {sb pb : Int} (hvb : VB Vs sb) {c0 c1 : jC} {G : Nat → Int} {A : Nat → Nat → Int} {T : jH} {lv : Int} {ln li at0 fk nd sy na vi le op0 tk0 : Int} (hd : 8 * k + 82 ≤ d + 1) (hW : Wk G A) (e_ln : G 9 = ln) (e_li : G 3 = li) (e_at0 : G 10 = at0) (e_fk : G 16 = fk) (e_nd : G 31 = nd) (e_sy : G 19 = sy) (e_na : G 28 = na) (e_vi : G 29 = vi) (e_le : A 4 (ln).toNat = le) (e_op0 : G 15 = op0) (e_tk0 : G 11 = tk0) (i_LT : LT G A) (i_SV : SV Vs sb G A) (i_PQ : PQ Vs sb pb G A) (h_lv : (-2147483648 : Int) ≤ lv ∧ lv ≤ 2147483647) (p_0 : 0 ≤ lv ∧ lv ≤ 15) (p_1 : 18 - lv ≤ ((k + 1 : Nat) : Int)) (p_2 : fk = 0) (p_3 : ln < li) (p_4 : at0 ≤ le) (p_5 : op0 = 0) (p_6 : nd ≤ 2 * at0 - tz tk0 + 30) (p_7 : sy ≤ na + 2) (p_8 : vi ≤ sy) (p_9 : sb = sy) (p_10 : 1 ≤ tk0) : ∀ (L : jL) (Gx : Nat → Int) (Ax : Nat → Nat → Int) (n at1 tk1 fk1 nd1 op1 sy1 na1 sa1 ka1 : Int), jGet L 0 = some (.ref 66) → jGet L 1 = some (.int (i32 (lv))) → jGet L 2 = some (.int (i32 n)) → Wk Gx Ax → Fr [9, 10, 11, 12, 13, 14, 15, 16, 17, 18, 19, 28, 29, 31] [6, 7, 8, 9, 10, 11, 12, 14, 15, 16, 17, 18, 19, 20, 21, 22, 23, 24, 28] G A Gx Ax → Pf nd A Ax → Fx sr (sy) A Ax → Fx [14] (vi) A Ax → Gx 10 = at1 → Gx 11 = tk1 → Gx 16 = fk1 → Gx 31 = nd1 → Gx 15 = op1 → Gx 19 = sy1 → Gx 28 = na1 → Ax 17 (n).toNat = sa1 → Ax 7 (sa1).toNat = ka1 → Gx 9 = ln → Gx 29 = vi → ((-2147483648 : Int) ≤ n ∧ n ≤ 2147483647) → (fk1 = 0) → (at0 ≤ at1) → (at1 ≤ le) → (n = nd) → (n ≤ 6998 ∧ n < nd1) → (sy1 = sy + 1) → (sa1 = sy) → (sy1 ≤ na1 + 2) → (op1 = 0) → (nd1 - nd ≤ (2 * at1 - tz tk1) - (2 * at0 - tz tk0)) → (ka1 = 10) → (nd1 = n + 1) → (ND Ax (n) (29) (sa1) (0) (0) (0) (0) (0)) → wj X d jm299 (95, L, [], rV c0 c1 Gx Ax T) (fun o V' => ∃ (G' : Nat → Int) (A' : Nat → Nat → Int) (r : Int) (ln2 : Int) (at2 : Int) (fk2 : Int) (nd2 : Int) (sy2 : Int) (na2 : Int) (vi2 : Int) (lf2 : Int), V' = rV c0 c1 G' A' T ∧ o = .inl (some (.int (i32 r))) ∧ Wk G' A' ∧ Fr [9, 10, 11, 12, 13, 14, 15, 16, 17, 18, 19, 28, 29, 31] [6, 7, 8, 9, 10, 11, 12, 14, 15, 16, 17, 18, 19, 20, 21, 22, 23, 24, 28] G A G' A' ∧ Pf nd A A' ∧ Fx sr (sy) A A' ∧ Fx [14] (vi) A A' ∧ ((-2147483648 : Int) ≤ r ∧ r ≤ 2147483647) ∧ G' 9 = ln2 ∧ G' 10 = at2 ∧ G' 16 = fk2 ∧ G' 31 = nd2 ∧ G' 19 = sy2 ∧ G' 28 = na2 ∧ G' 29 = vi2 ∧ A' 3 (ln2).toNat = lf2 ∧ (at0 ≤ at2) ∧ (nd ≤ nd2) ∧ (sy ≤ sy2) ∧ (sy2 ≤ na2 + 2) ∧ (vi ≤ vi2) ∧ (vi2 ≤ vi + 1) ∧ (0 ≤ r) ∧ (r ≤ 6999) ∧ (ln ≤ ln2) ∧ (ln2 ≤ li) ∧ (((1 ≤ fk2) ∧ (nd2 - nd ≤ 2 * at2 - (2 * at0 - tz tk0) + 14)) ∨ ((fk2 = 0) ∧ (vi2 = vi) ∧ (ln < ln2) ∧ (nd2 - nd ≤ 2 * at2 - (2 * at0 - tz tk0)) ∧ (at2 < lf2 ∨ li ≤ ln2) ∧ (nd ≤ r) ∧ (r < nd2) ∧ (wSt A' (sy2) pb (wP A' (sy2) pb (k)) (Vs) (r) (nd) (nd2) (sy) (sy2)) ∧ (NX A' (r))))) := by
  have hF0 : Fr [9, 10, 11, 12, 13, 14, 15, 16, 17, 18, 19, 28, 29, 31] [6, 7, 8, 9, 10, 11, 12, 14, 15, 16, 17, 18, 19, 20, 21, 22, 23, 24, 28] G A G A := Fr_rf
  have hP0 : Pf nd A A := Pf_rf
  have hS0 : Fx sr (sy) A A := Fx_rf
  have hV0 : Fx [14] (vi) A A := Fx_rf
  have b_ln : (0 : Int) ≤ ln ∧ ln ≤ 3000 := e_ln ▸ hW.1 9
  have b_li : (0 : Int) ≤ li ∧ li ≤ 3000 := e_li ▸ hW.1 3
  have b_at0 : (0 : Int) ≤ at0 ∧ at0 ≤ 3002 := e_at0 ▸ hW.1 10
  have b_fk : (0 : Int) ≤ fk ∧ fk ≤ 6 := e_fk ▸ hW.1 16
  have b_nd : (0 : Int) ≤ nd ∧ nd ≤ 6999 := e_nd ▸ hW.1 31
  have b_sy : (0 : Int) ≤ sy ∧ sy ≤ 202 := e_sy ▸ hW.1 19
  have b_na : (0 : Int) ≤ na ∧ na ≤ 200 := e_na ▸ hW.1 28
  have b_vi : (0 : Int) ≤ vi ∧ vi ≤ 202 := e_vi ▸ hW.1 29
  have b_le : (0 : Int) ≤ le ∧ le ≤ 3000 := e_le ▸ hW.2 4 _
  have b_op0 : (-2147483648 : Int) ≤ op0 ∧ op0 ≤ 2147483647 := e_op0 ▸ hW.1 15
  have z_tk0 := tz_f tk0
  have b_tk0 : (0 : Int) ≤ tk0 ∧ tk0 ≤ 5 := e_tk0 ▸ hW.1 11
  intro L Gx Ax n at1 tk1 fk1 nd1 op1 sy1 na1 sa1 ka1 gL_0 gL_1 gL_2 hWx hFx hPx hSx hVx ex_at1 ex_tk1 ex_fk1 ex_nd1 ex_op1 ex_sy1 ex_na1 ex_sa1 ex_ka1 fx_9 fx_29 rx_n iv_0 iv_1 iv_2 iv_3 iv_4 iv_5 iv_6 iv_7 iv_8 iv_9 iv_10 iv_11 iv_12
  have b_at1 : (0 : Int) ≤ at1 ∧ at1 ≤ 3002 := ex_at1 ▸ hWx.1 10
  have z_tk1 := tz_f tk1
  have b_tk1 : (0 : Int) ≤ tk1 ∧ tk1 ≤ 5 := ex_tk1 ▸ hWx.1 11
  have b_fk1 : (0 : Int) ≤ fk1 ∧ fk1 ≤ 6 := ex_fk1 ▸ hWx.1 16
  have b_nd1 : (0 : Int) ≤ nd1 ∧ nd1 ≤ 6999 := ex_nd1 ▸ hWx.1 31
  have b_op1 : (-2147483648 : Int) ≤ op1 ∧ op1 ≤ 2147483647 := ex_op1 ▸ hWx.1 15
  have b_sy1 : (0 : Int) ≤ sy1 ∧ sy1 ≤ 202 := ex_sy1 ▸ hWx.1 19
  have b_na1 : (0 : Int) ≤ na1 ∧ na1 ≤ 200 := ex_na1 ▸ hWx.1 28
  refine jx_ld (pc' := 96) (l' := L) (st' := [.ref 66]) rfl (jl_aloadn gL_0) ?_
  refine jr_get (pc' := 99) (i := 36) (v := .ref 86) rfl rfl (by decide) rfl rfl ?_
  refine jx_ld (pc' := 100) (l' := L) (st' := [.int (i32 (n)), .ref 86]) rfl (jl_iloadn gL_2) ?_
  refine jx_ld (pc' := 101) (l' := L) (st' := [.ref 66, .int (i32 (n)), .ref 86]) rfl (jl_aloadn gL_0) ?_
  refine jx_ar (pc' := 102) (st' := [.int (i32 (0)), .ref 66, .int (i32 (n)), .ref 86]) rfl rfl rfl rfl ?_
  refine jx_hp (pc' := 105) (st' := [.int (i32 (2147483647)), .int (i32 (0)), .ref 66, .int (i32 (n)), .ref 86]) rfl rfl rfl rfl rfl rfl ?_
  refine jx_vr (pc' := 108) (as := [.int (i32 (0)), .int (i32 (2147483647))]) (st := [.int (i32 (n)), .ref 86]) rfl rfl rfl rfl ⟨rfl, rfl, Nat.le_of_ble_eq_true rfl⟩ rfl rfl (c_needNumber (dd := d) (hd := by omega) (hW := hWx) (lo := 0) (hi := 2147483647) (ln := ln) (e_ln := show Gx 9 = ln from (fx_9)) (le := le) (e_le := show Ax 4 (ln).toNat = le from (congrFun (hFx.2 4 rfl) _).trans (e_le)) (at0 := at1) (e_at0 := show Gx 10 = at1 from (ex_at1)) (fk := fk1) (e_fk := show Gx 16 = fk1 from (ex_fk1)) (tk0 := tk1) (e_tk0 := show Gx 11 = tk1 from (ex_tk1))  (h_lo := ⟨(by decide), (by decide)⟩) (h_hi := ⟨(by decide), (by decide)⟩)  (p_0 := by omega)) (fun o V' hq => ?_)
  obtain ⟨G337, A338, r339, at2_340, tk2_341, fk2_342, rfl, rfl, hW343, hF344, b345, e346, e347, e348, p349, p350, q351⟩ := hq
  have hF352 := Fr_tr hFx hF344 (Fr_sub (by decide)) (Fr_sub (by decide))
  have hP353 := Pf_f hPx hF344 (by decide)
  have hS354 := Fx_f hSx hF344 (by decide)
  have hV355 := Fx_f hVx hF344 (by decide)
  have sf356 : ND A338 (n) (29) (sa1) (0) (0) (0) (0) (0) := ND_ag (by omega) (Ag_fr hF344 (by decide)) iv_12
  have bat2_340 : (0 : Int) ≤ at2_340 ∧ at2_340 ≤ 3002 := e346 ▸ hW343.1 10
  have ztk2_341 := tz_b tk2_341
  have btk2_341 : (0 : Int) ≤ tk2_341 ∧ tk2_341 ≤ 5 := e347 ▸ hW343.1 11
  have bfk2_342 : (0 : Int) ≤ fk2_342 ∧ fk2_342 ≤ 6 := e348 ▸ hW343.1 16
  refine .inr ⟨_, rfl, ?_⟩
  rcases q351 with ⟨a357, a358, a359, a360⟩ | ⟨a361, a362, a363, a364, a365⟩
  · have _q : True := trivial
    refine jr_st (pc' := 109) (i := 19) (m := 7000) (z := n) (y := r339) rfl (by decide) rfl (by decide) (by omega) (by omega) rfl ?_
    have hW367 : Wk G337 (uA A338 19 (n).toNat (r339)) := Wk_a hW343 (show (-2147483648 : Int) ≤ r339 by omega) (show r339 ≤ (2147483647 : Int) by omega)
    have hF368 := Fr_a (z := r339) (k := 19) (n := (n).toNat) hF352 (by decide)
    obtain ⟨A366, eA366⟩ : ∃ q, q = uA A338 19 (n).toNat (r339) := ⟨_, rfl⟩
    rw [← eA366]
    rw [← eA366] at hW367 hF368
    have q369 : A366 19 (n).toNat = r339 := by rw [eA366]; exact uA_eq
    have hP370 : Pf nd A A366 := eA366 ▸ Pf_a hP353 (z := n) (by omega) (by omega)
    have hS371 : Fx sr (sy) A A366 := eA366 ▸ Fx_n hS354 rfl
    have hV372 : Fx [14] (vi) A A366 := eA366 ▸ Fx_n hV355 rfl
    have sf373 : ND A366 (n) (29) (sa1) (0) (r339) (0) (0) (0) := ND_c eA366 sf356
    have z374 := tz_f (tk2_341)
    exact c_readPar_at_109p (X := X) (k := k) (hP := hP) (d := d) (Vs := Vs) (sb := sb) (pb := pb) (hvb := hvb) (c0 := c0) (c1 := c1) (G := G) (A := A) (T := T) (lv := lv) (ln := ln) (li := li) (at0 := at0) (fk := fk) (nd := nd) (sy := sy) (na := na) (vi := vi) (le := le) (op0 := op0) (tk0 := tk0) (hd := hd) (hW := hW) (e_ln := e_ln) (e_li := e_li) (e_at0 := e_at0) (e_fk := e_fk) (e_nd := e_nd) (e_sy := e_sy) (e_na := e_na) (e_vi := e_vi) (e_le := e_le) (e_op0 := e_op0) (e_tk0 := e_tk0) (i_LT := i_LT) (i_SV := i_SV) (i_PQ := i_PQ) (h_lv := h_lv) (p_0 := p_0) (p_1 := p_1) (p_2 := p_2) (p_3 := p_3) (p_4 := p_4) (p_5 := p_5) (p_6 := p_6) (p_7 := p_7) (p_8 := p_8) (p_9 := p_9) (p_10 := p_10) L G337 A366 (n) (at2_340) (tk2_341) (fk2_342) (nd1) (op1) (sy1) (na1) gL_0 gL_1 gL_2 hW367 hF368 hP370 hS371 hV372 ((e346)) ((e347)) ((e348)) (((hF344.1 31 rfl).trans (ex_nd1))) (((hF344.1 15 rfl).trans (ex_op1))) (((hF344.1 19 rfl).trans (ex_sy1))) (((hF344.1 28 rfl).trans (ex_na1))) (((hF344.1 9 rfl).trans (fx_9))) (((hF344.1 29 rfl).trans (fx_29))) (by omega) (by omega) (by omega) (by omega) (by omega) (by omega) (by omega) (by omega) (by omega)
  · have _q : True := trivial
    refine jr_st (pc' := 109) (i := 19) (m := 7000) (z := n) (y := r339) rfl (by decide) rfl (by decide) (by omega) (by omega) rfl ?_
    have hW376 : Wk G337 (uA A338 19 (n).toNat (r339)) := Wk_a hW343 (show (-2147483648 : Int) ≤ r339 by omega) (show r339 ≤ (2147483647 : Int) by omega)
    have hF377 := Fr_a (z := r339) (k := 19) (n := (n).toNat) hF352 (by decide)
    obtain ⟨A375, eA375⟩ : ∃ q, q = uA A338 19 (n).toNat (r339) := ⟨_, rfl⟩
    rw [← eA375]
    rw [← eA375] at hW376 hF377
    have q378 : A375 19 (n).toNat = r339 := by rw [eA375]; exact uA_eq
    have hP379 : Pf nd A A375 := eA375 ▸ Pf_a hP353 (z := n) (by omega) (by omega)
    have hS380 : Fx sr (sy) A A375 := eA375 ▸ Fx_n hS354 rfl
    have hV381 : Fx [14] (vi) A A375 := eA375 ▸ Fx_n hV355 rfl
    have sf382 : ND A375 (n) (29) (sa1) (0) (r339) (0) (0) (0) := ND_c eA375 sf356
    have z383 := tz_f (tk2_341)
    exact c_readPar_at_109 (X := X) (k := k) (hP := hP) (d := d) (Vs := Vs) (sb := sb) (pb := pb) (hvb := hvb) (c0 := c0) (c1 := c1) (G := G) (A := A) (T := T) (lv := lv) (ln := ln) (li := li) (at0 := at0) (fk := fk) (nd := nd) (sy := sy) (na := na) (vi := vi) (le := le) (op0 := op0) (tk0 := tk0) (hd := hd) (hW := hW) (e_ln := e_ln) (e_li := e_li) (e_at0 := e_at0) (e_fk := e_fk) (e_nd := e_nd) (e_sy := e_sy) (e_na := e_na) (e_vi := e_vi) (e_le := e_le) (e_op0 := e_op0) (e_tk0 := e_tk0) (i_LT := i_LT) (i_SV := i_SV) (i_PQ := i_PQ) (h_lv := h_lv) (p_0 := p_0) (p_1 := p_1) (p_2 := p_2) (p_3 := p_3) (p_4 := p_4) (p_5 := p_5) (p_6 := p_6) (p_7 := p_7) (p_8 := p_8) (p_9 := p_9) (p_10 := p_10) L G337 A375 (n) (at2_340) (tk2_341) (fk2_342) (nd1) (op1) (sy1) (na1) (sa1) (ka1) (r339) gL_0 gL_1 gL_2 hW376 hF377 hP379 hS380 hV381 ((e346)) ((e347)) ((e348)) (((hF344.1 31 rfl).trans (ex_nd1))) (((hF344.1 15 rfl).trans (ex_op1))) (((hF344.1 19 rfl).trans (ex_sy1))) (((hF344.1 28 rfl).trans (ex_na1))) ((congrFun (((congrFun eA375 17).trans (uA_ne (by decide))).trans (hF344.2 17 rfl)) _).trans (ex_sa1)) ((congrFun (((congrFun eA375 7).trans (uA_ne (by decide))).trans (hF344.2 7 rfl)) _).trans (ex_ka1)) ((q378)) (((hF344.1 9 rfl).trans (fx_9))) (((hF344.1 29 rfl).trans (fx_29))) (by omega) (by omega) (by omega) (by omega) (by omega) (by omega) (by omega) (by omega) (by omega) (by omega) (by omega) (by omega) (sf382) (by omega) (by omega)
set_option maxRecDepth 20000 in
set_option maxHeartbeats 4000000 in
theorem c_readPar_at_85p {X : jX} {k : Nat} (hP : RP X k) {d : Nat} {Vs : Nat → Prop} {sb pb : Int} (hvb : VB Vs sb) {c0 c1 : jC} {G : Nat → Int} {A : Nat → Nat → Int} {T : jH} {lv : Int} {ln li at0 fk nd sy na vi le op0 tk0 : Int} (hd : 8 * k + 82 ≤ d + 1) (hW : Wk G A) (e_ln : G 9 = ln) (e_li : G 3 = li) (e_at0 : G 10 = at0) (e_fk : G 16 = fk) (e_nd : G 31 = nd) (e_sy : G 19 = sy) (e_na : G 28 = na) (e_vi : G 29 = vi) (e_le : A 4 (ln).toNat = le) (e_op0 : G 15 = op0) (e_tk0 : G 11 = tk0) (i_LT : LT G A) (i_SV : SV Vs sb G A) (i_PQ : PQ Vs sb pb G A) (h_lv : (-2147483648 : Int) ≤ lv ∧ lv ≤ 2147483647) (p_0 : 0 ≤ lv ∧ lv ≤ 15) (p_1 : 18 - lv ≤ ((k + 1 : Nat) : Int)) (p_2 : fk = 0) (p_3 : ln < li) (p_4 : at0 ≤ le) (p_5 : op0 = 0) (p_6 : nd ≤ 2 * at0 - tz tk0 + 30) (p_7 : sy ≤ na + 2) (p_8 : vi ≤ sy) (p_9 : sb = sy) (p_10 : 1 ≤ tk0) : ∀ (L : jL) (Gx : Nat → Int) (Ax : Nat → Nat → Int) (n at1 tk1 fk1 nd1 op1 sy1 na1 : Int), jGet L 0 = some (.ref 66) → jGet L 1 = some (.int (i32 (lv))) → jGet L 2 = some (.int (i32 n)) → Wk Gx Ax → Fr [9, 10, 11, 12, 13, 14, 15, 16, 17, 18, 19, 28, 29, 31] [6, 7, 8, 9, 10, 11, 12, 14, 15, 16, 17, 18, 19, 20, 21, 22, 23, 24, 28] G A Gx Ax → Pf nd A Ax → Fx sr (sy) A Ax → Fx [14] (vi) A Ax → Gx 10 = at1 → Gx 11 = tk1 → Gx 16 = fk1 → Gx 31 = nd1 → Gx 15 = op1 → Gx 19 = sy1 → Gx 28 = na1 → Gx 9 = ln → Gx 29 = vi → ((-2147483648 : Int) ≤ n ∧ n ≤ 2147483647) → (1 ≤ fk1) → (at0 ≤ at1) → (at1 ≤ le) → (nd ≤ n ∧ n ≤ 6998 ∧ n < nd1) → (sy ≤ sy1) → (sy1 ≤ na1 + 2) → (0 ≤ op1 ∧ op1 ≤ 9) → (nd1 - nd ≤ 2 * at1 - 2 * at0 + 8) → wj X d jm299 (85, L, [], rV c0 c1 Gx Ax T) (fun o V' => ∃ (G' : Nat → Int) (A' : Nat → Nat → Int) (r : Int) (ln2 : Int) (at2 : Int) (fk2 : Int) (nd2 : Int) (sy2 : Int) (na2 : Int) (vi2 : Int) (lf2 : Int), V' = rV c0 c1 G' A' T ∧ o = .inl (some (.int (i32 r))) ∧ Wk G' A' ∧ Fr [9, 10, 11, 12, 13, 14, 15, 16, 17, 18, 19, 28, 29, 31] [6, 7, 8, 9, 10, 11, 12, 14, 15, 16, 17, 18, 19, 20, 21, 22, 23, 24, 28] G A G' A' ∧ Pf nd A A' ∧ Fx sr (sy) A A' ∧ Fx [14] (vi) A A' ∧ ((-2147483648 : Int) ≤ r ∧ r ≤ 2147483647) ∧ G' 9 = ln2 ∧ G' 10 = at2 ∧ G' 16 = fk2 ∧ G' 31 = nd2 ∧ G' 19 = sy2 ∧ G' 28 = na2 ∧ G' 29 = vi2 ∧ A' 3 (ln2).toNat = lf2 ∧ (at0 ≤ at2) ∧ (nd ≤ nd2) ∧ (sy ≤ sy2) ∧ (sy2 ≤ na2 + 2) ∧ (vi ≤ vi2) ∧ (vi2 ≤ vi + 1) ∧ (0 ≤ r) ∧ (r ≤ 6999) ∧ (ln ≤ ln2) ∧ (ln2 ≤ li) ∧ (((1 ≤ fk2) ∧ (nd2 - nd ≤ 2 * at2 - (2 * at0 - tz tk0) + 14)) ∨ ((fk2 = 0) ∧ (vi2 = vi) ∧ (ln < ln2) ∧ (nd2 - nd ≤ 2 * at2 - (2 * at0 - tz tk0)) ∧ (at2 < lf2 ∨ li ≤ ln2) ∧ (nd ≤ r) ∧ (r < nd2) ∧ (wSt A' (sy2) pb (wP A' (sy2) pb (k)) (Vs) (r) (nd) (nd2) (sy) (sy2)) ∧ (NX A' (r))))) := by
  have hF0 : Fr [9, 10, 11, 12, 13, 14, 15, 16, 17, 18, 19, 28, 29, 31] [6, 7, 8, 9, 10, 11, 12, 14, 15, 16, 17, 18, 19, 20, 21, 22, 23, 24, 28] G A G A := Fr_rf
  have hP0 : Pf nd A A := Pf_rf
  have hS0 : Fx sr (sy) A A := Fx_rf
  have hV0 : Fx [14] (vi) A A := Fx_rf
  have b_ln : (0 : Int) ≤ ln ∧ ln ≤ 3000 := e_ln ▸ hW.1 9
  have b_li : (0 : Int) ≤ li ∧ li ≤ 3000 := e_li ▸ hW.1 3
  have b_at0 : (0 : Int) ≤ at0 ∧ at0 ≤ 3002 := e_at0 ▸ hW.1 10
  have b_fk : (0 : Int) ≤ fk ∧ fk ≤ 6 := e_fk ▸ hW.1 16
  have b_nd : (0 : Int) ≤ nd ∧ nd ≤ 6999 := e_nd ▸ hW.1 31
  have b_sy : (0 : Int) ≤ sy ∧ sy ≤ 202 := e_sy ▸ hW.1 19
  have b_na : (0 : Int) ≤ na ∧ na ≤ 200 := e_na ▸ hW.1 28
  have b_vi : (0 : Int) ≤ vi ∧ vi ≤ 202 := e_vi ▸ hW.1 29
  have b_le : (0 : Int) ≤ le ∧ le ≤ 3000 := e_le ▸ hW.2 4 _
  have b_op0 : (-2147483648 : Int) ≤ op0 ∧ op0 ≤ 2147483647 := e_op0 ▸ hW.1 15
  have z_tk0 := tz_f tk0
  have b_tk0 : (0 : Int) ≤ tk0 ∧ tk0 ≤ 5 := e_tk0 ▸ hW.1 11
  intro L Gx Ax n at1 tk1 fk1 nd1 op1 sy1 na1 gL_0 gL_1 gL_2 hWx hFx hPx hSx hVx ex_at1 ex_tk1 ex_fk1 ex_nd1 ex_op1 ex_sy1 ex_na1 fx_9 fx_29 rx_n iv_0 iv_1 iv_2 iv_3 iv_4 iv_5 iv_6 iv_7
  have b_at1 : (0 : Int) ≤ at1 ∧ at1 ≤ 3002 := ex_at1 ▸ hWx.1 10
  have z_tk1 := tz_f tk1
  have b_tk1 : (0 : Int) ≤ tk1 ∧ tk1 ≤ 5 := ex_tk1 ▸ hWx.1 11
  have b_fk1 : (0 : Int) ≤ fk1 ∧ fk1 ≤ 6 := ex_fk1 ▸ hWx.1 16
  have b_nd1 : (0 : Int) ≤ nd1 ∧ nd1 ≤ 6999 := ex_nd1 ▸ hWx.1 31
  have b_op1 : (-2147483648 : Int) ≤ op1 ∧ op1 ≤ 2147483647 := ex_op1 ▸ hWx.1 15
  have b_sy1 : (0 : Int) ≤ sy1 ∧ sy1 ≤ 202 := ex_sy1 ▸ hWx.1 19
  have b_na1 : (0 : Int) ≤ na1 ∧ na1 ≤ 200 := ex_na1 ▸ hWx.1 28
  refine jx_ld (pc' := 86) (l' := L) (st' := [.ref 66]) rfl (jl_aloadn gL_0) ?_
  refine jx_ld (pc' := 87) (l' := L) (st' := [.ref 66, .ref 66]) rfl (jl_aloadn gL_0) ?_
  refine jx_ar (pc' := 89) (st' := [.int (i32 (61)), .ref 66, .ref 66]) rfl rfl rfl rfl ?_
  have b384 : (-2147483648 : Int) ≤ Gx 13 ∧ Gx 13 ≤ 2147483647 := hWx.1 13
  refine jx_vr (pc' := 92) (as := [.int (i32 (61))]) (st := [.ref 66]) rfl rfl rfl rfl ⟨rfl, rfl, Nat.le_of_ble_eq_true rfl⟩ rfl rfl (c_is (dd := d) (hd := by omega) (hW := hWx) (k := 61) (tk := tk1) (e_tk := show Gx 11 = tk1 from (ex_tk1)) (tn := Gx 13) (e_tn := show Gx 13 = Gx 13 from rfl)  (h_k := ⟨(by decide), (by decide)⟩)  ) (fun o V' hq => ?_)
  obtain ⟨r385, rfl, rfl, b386, q387⟩ := hq
  refine .inr ⟨_, rfl, ?_⟩
  rcases q387 with ⟨rfl, a388, a389, a390⟩ | rfl
  · have _q : True := trivial
    refine jx_vr (pc' := 95) (as := [.int (i32 (1))]) (st := []) rfl rfl rfl rfl ⟨rfl, rfl, Nat.le_of_ble_eq_true rfl⟩ rfl rfl (c_need (dd := d) (hd := by omega) (hW := hWx) (g := 1) (ln := ln) (e_ln := show Gx 9 = ln from (fx_9)) (le := le) (e_le := show Ax 4 (ln).toNat = le from (congrFun (hFx.2 4 rfl) _).trans (e_le)) (at0 := at1) (e_at0 := show Gx 10 = at1 from (ex_at1)) (fk := fk1) (e_fk := show Gx 16 = fk1 from (ex_fk1)) (tk0 := tk1) (e_tk0 := show Gx 11 = tk1 from (ex_tk1))  (h_g := ⟨(by decide), (by decide)⟩)  (p_0 := by omega)) (fun o V' hq => ?_)
    obtain ⟨G391, A392, at2_393, tk2_394, fk2_395, rfl, rfl, hW396, hF397, e398, e399, e400, p401, p402, q403⟩ := hq
    have hF404 := Fr_tr hFx hF397 (Fr_sub (by decide)) (Fr_sub (by decide))
    have hP405 := Pf_f hPx hF397 (by decide)
    have hS406 := Fx_f hSx hF397 (by decide)
    have hV407 := Fx_f hVx hF397 (by decide)
    have bat2_393 : (0 : Int) ≤ at2_393 ∧ at2_393 ≤ 3002 := e398 ▸ hW396.1 10
    have ztk2_394 := tz_b tk2_394
    have btk2_394 : (0 : Int) ≤ tk2_394 ∧ tk2_394 ≤ 5 := e399 ▸ hW396.1 11
    have bfk2_395 : (0 : Int) ≤ fk2_395 ∧ fk2_395 ≤ 6 := e400 ▸ hW396.1 16
    refine .inl ⟨rfl, ?_⟩
    rcases q403 with ⟨a408, a409, a410, a411⟩ | ⟨a412, a413, a414, a415⟩
    · have _q : True := trivial
      have z416 := tz_f (tk2_394)
      exact c_readPar_at_95p (X := X) (k := k) (hP := hP) (d := d) (Vs := Vs) (sb := sb) (pb := pb) (hvb := hvb) (c0 := c0) (c1 := c1) (G := G) (A := A) (T := T) (lv := lv) (ln := ln) (li := li) (at0 := at0) (fk := fk) (nd := nd) (sy := sy) (na := na) (vi := vi) (le := le) (op0 := op0) (tk0 := tk0) (hd := hd) (hW := hW) (e_ln := e_ln) (e_li := e_li) (e_at0 := e_at0) (e_fk := e_fk) (e_nd := e_nd) (e_sy := e_sy) (e_na := e_na) (e_vi := e_vi) (e_le := e_le) (e_op0 := e_op0) (e_tk0 := e_tk0) (i_LT := i_LT) (i_SV := i_SV) (i_PQ := i_PQ) (h_lv := h_lv) (p_0 := p_0) (p_1 := p_1) (p_2 := p_2) (p_3 := p_3) (p_4 := p_4) (p_5 := p_5) (p_6 := p_6) (p_7 := p_7) (p_8 := p_8) (p_9 := p_9) (p_10 := p_10) L G391 A392 (n) (at2_393) (tk2_394) (fk2_395) (nd1) (op1) (sy1) (na1) gL_0 gL_1 gL_2 hW396 hF404 hP405 hS406 hV407 ((e398)) ((e399)) ((e400)) (((hF397.1 31 rfl).trans (ex_nd1))) (((hF397.1 15 rfl).trans (ex_op1))) (((hF397.1 19 rfl).trans (ex_sy1))) (((hF397.1 28 rfl).trans (ex_na1))) (((hF397.1 9 rfl).trans (fx_9))) (((hF397.1 29 rfl).trans (fx_29))) (by omega) (by omega) (by omega) (by omega) (by omega) (by omega) (by omega) (by omega) (by omega)
    · have _q : True := trivial
      exfalso
      omega
  · have _q : True := trivial
    refine jx_vr (pc' := 95) (as := [.int (i32 (0))]) (st := []) rfl rfl rfl rfl ⟨rfl, rfl, Nat.le_of_ble_eq_true rfl⟩ rfl rfl (c_need (dd := d) (hd := by omega) (hW := hWx) (g := 0) (ln := ln) (e_ln := show Gx 9 = ln from (fx_9)) (le := le) (e_le := show Ax 4 (ln).toNat = le from (congrFun (hFx.2 4 rfl) _).trans (e_le)) (at0 := at1) (e_at0 := show Gx 10 = at1 from (ex_at1)) (fk := fk1) (e_fk := show Gx 16 = fk1 from (ex_fk1)) (tk0 := tk1) (e_tk0 := show Gx 11 = tk1 from (ex_tk1))  (h_g := ⟨(by decide), (by decide)⟩)  (p_0 := by omega)) (fun o V' hq => ?_)
    obtain ⟨G417, A418, at2_419, tk2_420, fk2_421, rfl, rfl, hW422, hF423, e424, e425, e426, p427, p428, q429⟩ := hq
    have hF430 := Fr_tr hFx hF423 (Fr_sub (by decide)) (Fr_sub (by decide))
    have hP431 := Pf_f hPx hF423 (by decide)
    have hS432 := Fx_f hSx hF423 (by decide)
    have hV433 := Fx_f hVx hF423 (by decide)
    have bat2_419 : (0 : Int) ≤ at2_419 ∧ at2_419 ≤ 3002 := e424 ▸ hW422.1 10
    have ztk2_420 := tz_b tk2_420
    have btk2_420 : (0 : Int) ≤ tk2_420 ∧ tk2_420 ≤ 5 := e425 ▸ hW422.1 11
    have bfk2_421 : (0 : Int) ≤ fk2_421 ∧ fk2_421 ≤ 6 := e426 ▸ hW422.1 16
    refine .inl ⟨rfl, ?_⟩
    rcases q429 with ⟨a434, a435, a436, a437⟩ | ⟨a438, a439, a440, a441⟩
    · have _q : True := trivial
      have z442 := tz_f (tk2_420)
      exact c_readPar_at_95p (X := X) (k := k) (hP := hP) (d := d) (Vs := Vs) (sb := sb) (pb := pb) (hvb := hvb) (c0 := c0) (c1 := c1) (G := G) (A := A) (T := T) (lv := lv) (ln := ln) (li := li) (at0 := at0) (fk := fk) (nd := nd) (sy := sy) (na := na) (vi := vi) (le := le) (op0 := op0) (tk0 := tk0) (hd := hd) (hW := hW) (e_ln := e_ln) (e_li := e_li) (e_at0 := e_at0) (e_fk := e_fk) (e_nd := e_nd) (e_sy := e_sy) (e_na := e_na) (e_vi := e_vi) (e_le := e_le) (e_op0 := e_op0) (e_tk0 := e_tk0) (i_LT := i_LT) (i_SV := i_SV) (i_PQ := i_PQ) (h_lv := h_lv) (p_0 := p_0) (p_1 := p_1) (p_2 := p_2) (p_3 := p_3) (p_4 := p_4) (p_5 := p_5) (p_6 := p_6) (p_7 := p_7) (p_8 := p_8) (p_9 := p_9) (p_10 := p_10) L G417 A418 (n) (at2_419) (tk2_420) (fk2_421) (nd1) (op1) (sy1) (na1) gL_0 gL_1 gL_2 hW422 hF430 hP431 hS432 hV433 ((e424)) ((e425)) ((e426)) (((hF423.1 31 rfl).trans (ex_nd1))) (((hF423.1 15 rfl).trans (ex_op1))) (((hF423.1 19 rfl).trans (ex_sy1))) (((hF423.1 28 rfl).trans (ex_na1))) (((hF423.1 9 rfl).trans (fx_9))) (((hF423.1 29 rfl).trans (fx_29))) (by omega) (by omega) (by omega) (by omega) (by omega) (by omega) (by omega) (by omega) (by omega)
    · have _q : True := trivial
      exfalso
      omega
set_option maxRecDepth 20000 in
set_option maxHeartbeats 4000000 in
theorem c_readPar_at_85 {X : jX} {k : Nat} (hP : RP X k) {d : Nat} {Vs : Nat → Prop} {sb pb : Int} (hvb : VB Vs sb) {c0 c1 : jC} {G : Nat → Int} {A : Nat → Nat → Int} {T : jH} {lv : Int} {ln li at0 fk nd sy na vi le op0 tk0 : Int} (hd : 8 * k + 82 ≤ d + 1) (hW : Wk G A) (e_ln : G 9 = ln) (e_li : G 3 = li) (e_at0 : G 10 = at0) (e_fk : G 16 = fk) (e_nd : G 31 = nd) (e_sy : G 19 = sy) (e_na : G 28 = na) (e_vi : G 29 = vi) (e_le : A 4 (ln).toNat = le) (e_op0 : G 15 = op0) (e_tk0 : G 11 = tk0) (i_LT : LT G A) (i_SV : SV Vs sb G A) (i_PQ : PQ Vs sb pb G A) (h_lv : (-2147483648 : Int) ≤ lv ∧ lv ≤ 2147483647) (p_0 : 0 ≤ lv ∧ lv ≤ 15) (p_1 : 18 - lv ≤ ((k + 1 : Nat) : Int)) (p_2 : fk = 0) (p_3 : ln < li) (p_4 : at0 ≤ le) (p_5 : op0 = 0) (p_6 : nd ≤ 2 * at0 - tz tk0 + 30) (p_7 : sy ≤ na + 2) (p_8 : vi ≤ sy) (p_9 : sb = sy) (p_10 : 1 ≤ tk0) : ∀ (L : jL) (Gx : Nat → Int) (Ax : Nat → Nat → Int) (n at1 tk1 fk1 nd1 op1 sy1 na1 sa1 ka1 : Int), jGet L 0 = some (.ref 66) → jGet L 1 = some (.int (i32 (lv))) → jGet L 2 = some (.int (i32 n)) → Wk Gx Ax → Fr [9, 10, 11, 12, 13, 14, 15, 16, 17, 18, 19, 28, 29, 31] [6, 7, 8, 9, 10, 11, 12, 14, 15, 16, 17, 18, 19, 20, 21, 22, 23, 24, 28] G A Gx Ax → Pf nd A Ax → Fx sr (sy) A Ax → Fx [14] (vi) A Ax → Gx 10 = at1 → Gx 11 = tk1 → Gx 16 = fk1 → Gx 31 = nd1 → Gx 15 = op1 → Gx 19 = sy1 → Gx 28 = na1 → Ax 17 (n).toNat = sa1 → Ax 7 (sa1).toNat = ka1 → Gx 9 = ln → Gx 29 = vi → ((-2147483648 : Int) ≤ n ∧ n ≤ 2147483647) → (fk1 = 0) → (at0 ≤ at1) → (at1 ≤ le) → (n = nd) → (n ≤ 6998 ∧ n < nd1) → (sy1 = sy + 1) → (sa1 = sy) → (sy1 ≤ na1 + 2) → (op1 = 0) → (nd1 - nd ≤ (2 * at1 - tz tk1) - (2 * at0 - tz tk0)) → (ka1 = 10) → (nd1 = n + 1) → (ND Ax (n) (29) (sa1) (0) (0) (0) (0) (0)) → wj X d jm299 (85, L, [], rV c0 c1 Gx Ax T) (fun o V' => ∃ (G' : Nat → Int) (A' : Nat → Nat → Int) (r : Int) (ln2 : Int) (at2 : Int) (fk2 : Int) (nd2 : Int) (sy2 : Int) (na2 : Int) (vi2 : Int) (lf2 : Int), V' = rV c0 c1 G' A' T ∧ o = .inl (some (.int (i32 r))) ∧ Wk G' A' ∧ Fr [9, 10, 11, 12, 13, 14, 15, 16, 17, 18, 19, 28, 29, 31] [6, 7, 8, 9, 10, 11, 12, 14, 15, 16, 17, 18, 19, 20, 21, 22, 23, 24, 28] G A G' A' ∧ Pf nd A A' ∧ Fx sr (sy) A A' ∧ Fx [14] (vi) A A' ∧ ((-2147483648 : Int) ≤ r ∧ r ≤ 2147483647) ∧ G' 9 = ln2 ∧ G' 10 = at2 ∧ G' 16 = fk2 ∧ G' 31 = nd2 ∧ G' 19 = sy2 ∧ G' 28 = na2 ∧ G' 29 = vi2 ∧ A' 3 (ln2).toNat = lf2 ∧ (at0 ≤ at2) ∧ (nd ≤ nd2) ∧ (sy ≤ sy2) ∧ (sy2 ≤ na2 + 2) ∧ (vi ≤ vi2) ∧ (vi2 ≤ vi + 1) ∧ (0 ≤ r) ∧ (r ≤ 6999) ∧ (ln ≤ ln2) ∧ (ln2 ≤ li) ∧ (((1 ≤ fk2) ∧ (nd2 - nd ≤ 2 * at2 - (2 * at0 - tz tk0) + 14)) ∨ ((fk2 = 0) ∧ (vi2 = vi) ∧ (ln < ln2) ∧ (nd2 - nd ≤ 2 * at2 - (2 * at0 - tz tk0)) ∧ (at2 < lf2 ∨ li ≤ ln2) ∧ (nd ≤ r) ∧ (r < nd2) ∧ (wSt A' (sy2) pb (wP A' (sy2) pb (k)) (Vs) (r) (nd) (nd2) (sy) (sy2)) ∧ (NX A' (r))))) := by
  have hF0 : Fr [9, 10, 11, 12, 13, 14, 15, 16, 17, 18, 19, 28, 29, 31] [6, 7, 8, 9, 10, 11, 12, 14, 15, 16, 17, 18, 19, 20, 21, 22, 23, 24, 28] G A G A := Fr_rf
  have hP0 : Pf nd A A := Pf_rf
  have hS0 : Fx sr (sy) A A := Fx_rf
  have hV0 : Fx [14] (vi) A A := Fx_rf
  have b_ln : (0 : Int) ≤ ln ∧ ln ≤ 3000 := e_ln ▸ hW.1 9
  have b_li : (0 : Int) ≤ li ∧ li ≤ 3000 := e_li ▸ hW.1 3
  have b_at0 : (0 : Int) ≤ at0 ∧ at0 ≤ 3002 := e_at0 ▸ hW.1 10
  have b_fk : (0 : Int) ≤ fk ∧ fk ≤ 6 := e_fk ▸ hW.1 16
  have b_nd : (0 : Int) ≤ nd ∧ nd ≤ 6999 := e_nd ▸ hW.1 31
  have b_sy : (0 : Int) ≤ sy ∧ sy ≤ 202 := e_sy ▸ hW.1 19
  have b_na : (0 : Int) ≤ na ∧ na ≤ 200 := e_na ▸ hW.1 28
  have b_vi : (0 : Int) ≤ vi ∧ vi ≤ 202 := e_vi ▸ hW.1 29
  have b_le : (0 : Int) ≤ le ∧ le ≤ 3000 := e_le ▸ hW.2 4 _
  have b_op0 : (-2147483648 : Int) ≤ op0 ∧ op0 ≤ 2147483647 := e_op0 ▸ hW.1 15
  have z_tk0 := tz_f tk0
  have b_tk0 : (0 : Int) ≤ tk0 ∧ tk0 ≤ 5 := e_tk0 ▸ hW.1 11
  intro L Gx Ax n at1 tk1 fk1 nd1 op1 sy1 na1 sa1 ka1 gL_0 gL_1 gL_2 hWx hFx hPx hSx hVx ex_at1 ex_tk1 ex_fk1 ex_nd1 ex_op1 ex_sy1 ex_na1 ex_sa1 ex_ka1 fx_9 fx_29 rx_n iv_0 iv_1 iv_2 iv_3 iv_4 iv_5 iv_6 iv_7 iv_8 iv_9 iv_10 iv_11 iv_12
  have b_at1 : (0 : Int) ≤ at1 ∧ at1 ≤ 3002 := ex_at1 ▸ hWx.1 10
  have z_tk1 := tz_f tk1
  have b_tk1 : (0 : Int) ≤ tk1 ∧ tk1 ≤ 5 := ex_tk1 ▸ hWx.1 11
  have b_fk1 : (0 : Int) ≤ fk1 ∧ fk1 ≤ 6 := ex_fk1 ▸ hWx.1 16
  have b_nd1 : (0 : Int) ≤ nd1 ∧ nd1 ≤ 6999 := ex_nd1 ▸ hWx.1 31
  have b_op1 : (-2147483648 : Int) ≤ op1 ∧ op1 ≤ 2147483647 := ex_op1 ▸ hWx.1 15
  have b_sy1 : (0 : Int) ≤ sy1 ∧ sy1 ≤ 202 := ex_sy1 ▸ hWx.1 19
  have b_na1 : (0 : Int) ≤ na1 ∧ na1 ≤ 200 := ex_na1 ▸ hWx.1 28
  refine jx_ld (pc' := 86) (l' := L) (st' := [.ref 66]) rfl (jl_aloadn gL_0) ?_
  refine jx_ld (pc' := 87) (l' := L) (st' := [.ref 66, .ref 66]) rfl (jl_aloadn gL_0) ?_
  refine jx_ar (pc' := 89) (st' := [.int (i32 (61)), .ref 66, .ref 66]) rfl rfl rfl rfl ?_
  have b443 : (-2147483648 : Int) ≤ Gx 13 ∧ Gx 13 ≤ 2147483647 := hWx.1 13
  refine jx_vr (pc' := 92) (as := [.int (i32 (61))]) (st := [.ref 66]) rfl rfl rfl rfl ⟨rfl, rfl, Nat.le_of_ble_eq_true rfl⟩ rfl rfl (c_is (dd := d) (hd := by omega) (hW := hWx) (k := 61) (tk := tk1) (e_tk := show Gx 11 = tk1 from (ex_tk1)) (tn := Gx 13) (e_tn := show Gx 13 = Gx 13 from rfl)  (h_k := ⟨(by decide), (by decide)⟩)  ) (fun o V' hq => ?_)
  obtain ⟨r444, rfl, rfl, b445, q446⟩ := hq
  refine .inr ⟨_, rfl, ?_⟩
  rcases q446 with ⟨rfl, a447, a448, a449⟩ | rfl
  · have _q : True := trivial
    refine jx_vr (pc' := 95) (as := [.int (i32 (1))]) (st := []) rfl rfl rfl rfl ⟨rfl, rfl, Nat.le_of_ble_eq_true rfl⟩ rfl rfl (c_need (dd := d) (hd := by omega) (hW := hWx) (g := 1) (ln := ln) (e_ln := show Gx 9 = ln from (fx_9)) (le := le) (e_le := show Ax 4 (ln).toNat = le from (congrFun (hFx.2 4 rfl) _).trans (e_le)) (at0 := at1) (e_at0 := show Gx 10 = at1 from (ex_at1)) (fk := fk1) (e_fk := show Gx 16 = fk1 from (ex_fk1)) (tk0 := tk1) (e_tk0 := show Gx 11 = tk1 from (ex_tk1))  (h_g := ⟨(by decide), (by decide)⟩)  (p_0 := by omega)) (fun o V' hq => ?_)
    obtain ⟨G450, A451, at2_452, tk2_453, fk2_454, rfl, rfl, hW455, hF456, e457, e458, e459, p460, p461, q462⟩ := hq
    have hF463 := Fr_tr hFx hF456 (Fr_sub (by decide)) (Fr_sub (by decide))
    have hP464 := Pf_f hPx hF456 (by decide)
    have hS465 := Fx_f hSx hF456 (by decide)
    have hV466 := Fx_f hVx hF456 (by decide)
    have sf467 : ND A451 (n) (29) (sa1) (0) (0) (0) (0) (0) := ND_ag (by omega) (Ag_fr hF456 (by decide)) iv_12
    have bat2_452 : (0 : Int) ≤ at2_452 ∧ at2_452 ≤ 3002 := e457 ▸ hW455.1 10
    have ztk2_453 := tz_b tk2_453
    have btk2_453 : (0 : Int) ≤ tk2_453 ∧ tk2_453 ≤ 5 := e458 ▸ hW455.1 11
    have bfk2_454 : (0 : Int) ≤ fk2_454 ∧ fk2_454 ≤ 6 := e459 ▸ hW455.1 16
    refine .inl ⟨rfl, ?_⟩
    rcases q462 with ⟨a468, a469, a470, a471⟩ | ⟨a472, a473, a474, a475⟩
    · have _q : True := trivial
      have z476 := tz_f (tk2_453)
      exact c_readPar_at_95p (X := X) (k := k) (hP := hP) (d := d) (Vs := Vs) (sb := sb) (pb := pb) (hvb := hvb) (c0 := c0) (c1 := c1) (G := G) (A := A) (T := T) (lv := lv) (ln := ln) (li := li) (at0 := at0) (fk := fk) (nd := nd) (sy := sy) (na := na) (vi := vi) (le := le) (op0 := op0) (tk0 := tk0) (hd := hd) (hW := hW) (e_ln := e_ln) (e_li := e_li) (e_at0 := e_at0) (e_fk := e_fk) (e_nd := e_nd) (e_sy := e_sy) (e_na := e_na) (e_vi := e_vi) (e_le := e_le) (e_op0 := e_op0) (e_tk0 := e_tk0) (i_LT := i_LT) (i_SV := i_SV) (i_PQ := i_PQ) (h_lv := h_lv) (p_0 := p_0) (p_1 := p_1) (p_2 := p_2) (p_3 := p_3) (p_4 := p_4) (p_5 := p_5) (p_6 := p_6) (p_7 := p_7) (p_8 := p_8) (p_9 := p_9) (p_10 := p_10) L G450 A451 (n) (at2_452) (tk2_453) (fk2_454) (nd1) (op1) (sy1) (na1) gL_0 gL_1 gL_2 hW455 hF463 hP464 hS465 hV466 ((e457)) ((e458)) ((e459)) (((hF456.1 31 rfl).trans (ex_nd1))) (((hF456.1 15 rfl).trans (ex_op1))) (((hF456.1 19 rfl).trans (ex_sy1))) (((hF456.1 28 rfl).trans (ex_na1))) (((hF456.1 9 rfl).trans (fx_9))) (((hF456.1 29 rfl).trans (fx_29))) (by omega) (by omega) (by omega) (by omega) (by omega) (by omega) (by omega) (by omega) (by omega)
    · have _q : True := trivial
      have z477 := tz_f (tk2_453)
      exact c_readPar_at_95 (X := X) (k := k) (hP := hP) (d := d) (Vs := Vs) (sb := sb) (pb := pb) (hvb := hvb) (c0 := c0) (c1 := c1) (G := G) (A := A) (T := T) (lv := lv) (ln := ln) (li := li) (at0 := at0) (fk := fk) (nd := nd) (sy := sy) (na := na) (vi := vi) (le := le) (op0 := op0) (tk0 := tk0) (hd := hd) (hW := hW) (e_ln := e_ln) (e_li := e_li) (e_at0 := e_at0) (e_fk := e_fk) (e_nd := e_nd) (e_sy := e_sy) (e_na := e_na) (e_vi := e_vi) (e_le := e_le) (e_op0 := e_op0) (e_tk0 := e_tk0) (i_LT := i_LT) (i_SV := i_SV) (i_PQ := i_PQ) (h_lv := h_lv) (p_0 := p_0) (p_1 := p_1) (p_2 := p_2) (p_3 := p_3) (p_4 := p_4) (p_5 := p_5) (p_6 := p_6) (p_7 := p_7) (p_8 := p_8) (p_9 := p_9) (p_10 := p_10) L G450 A451 (n) (at2_452) (tk2_453) (fk2_454) (nd1) (op1) (sy1) (na1) (sa1) (ka1) gL_0 gL_1 gL_2 hW455 hF463 hP464 hS465 hV466 ((e457)) ((e458)) ((e459)) (((hF456.1 31 rfl).trans (ex_nd1))) (((hF456.1 15 rfl).trans (ex_op1))) (((hF456.1 19 rfl).trans (ex_sy1))) (((hF456.1 28 rfl).trans (ex_na1))) ((congrFun (hF456.2 17 rfl) _).trans (ex_sa1)) ((congrFun (hF456.2 7 rfl) _).trans (ex_ka1)) (((hF456.1 9 rfl).trans (fx_9))) (((hF456.1 29 rfl).trans (fx_29))) (by omega) (by omega) (by omega) (by omega) (by omega) (by omega) (by omega) (by omega) (by omega) (by omega) (by omega) (by omega) (by omega) (sf467)
  · have _q : True := trivial
    refine jx_vr (pc' := 95) (as := [.int (i32 (0))]) (st := []) rfl rfl rfl rfl ⟨rfl, rfl, Nat.le_of_ble_eq_true rfl⟩ rfl rfl (c_need (dd := d) (hd := by omega) (hW := hWx) (g := 0) (ln := ln) (e_ln := show Gx 9 = ln from (fx_9)) (le := le) (e_le := show Ax 4 (ln).toNat = le from (congrFun (hFx.2 4 rfl) _).trans (e_le)) (at0 := at1) (e_at0 := show Gx 10 = at1 from (ex_at1)) (fk := fk1) (e_fk := show Gx 16 = fk1 from (ex_fk1)) (tk0 := tk1) (e_tk0 := show Gx 11 = tk1 from (ex_tk1))  (h_g := ⟨(by decide), (by decide)⟩)  (p_0 := by omega)) (fun o V' hq => ?_)
    obtain ⟨G478, A479, at2_480, tk2_481, fk2_482, rfl, rfl, hW483, hF484, e485, e486, e487, p488, p489, q490⟩ := hq
    have hF491 := Fr_tr hFx hF484 (Fr_sub (by decide)) (Fr_sub (by decide))
    have hP492 := Pf_f hPx hF484 (by decide)
    have hS493 := Fx_f hSx hF484 (by decide)
    have hV494 := Fx_f hVx hF484 (by decide)
    have sf495 : ND A479 (n) (29) (sa1) (0) (0) (0) (0) (0) := ND_ag (by omega) (Ag_fr hF484 (by decide)) iv_12
    have bat2_480 : (0 : Int) ≤ at2_480 ∧ at2_480 ≤ 3002 := e485 ▸ hW483.1 10
    have ztk2_481 := tz_b tk2_481
    have btk2_481 : (0 : Int) ≤ tk2_481 ∧ tk2_481 ≤ 5 := e486 ▸ hW483.1 11
    have bfk2_482 : (0 : Int) ≤ fk2_482 ∧ fk2_482 ≤ 6 := e487 ▸ hW483.1 16
    refine .inl ⟨rfl, ?_⟩
    rcases q490 with ⟨a496, a497, a498, a499⟩ | ⟨a500, a501, a502, a503⟩
    · have _q : True := trivial
      have z504 := tz_f (tk2_481)
      exact c_readPar_at_95p (X := X) (k := k) (hP := hP) (d := d) (Vs := Vs) (sb := sb) (pb := pb) (hvb := hvb) (c0 := c0) (c1 := c1) (G := G) (A := A) (T := T) (lv := lv) (ln := ln) (li := li) (at0 := at0) (fk := fk) (nd := nd) (sy := sy) (na := na) (vi := vi) (le := le) (op0 := op0) (tk0 := tk0) (hd := hd) (hW := hW) (e_ln := e_ln) (e_li := e_li) (e_at0 := e_at0) (e_fk := e_fk) (e_nd := e_nd) (e_sy := e_sy) (e_na := e_na) (e_vi := e_vi) (e_le := e_le) (e_op0 := e_op0) (e_tk0 := e_tk0) (i_LT := i_LT) (i_SV := i_SV) (i_PQ := i_PQ) (h_lv := h_lv) (p_0 := p_0) (p_1 := p_1) (p_2 := p_2) (p_3 := p_3) (p_4 := p_4) (p_5 := p_5) (p_6 := p_6) (p_7 := p_7) (p_8 := p_8) (p_9 := p_9) (p_10 := p_10) L G478 A479 (n) (at2_480) (tk2_481) (fk2_482) (nd1) (op1) (sy1) (na1) gL_0 gL_1 gL_2 hW483 hF491 hP492 hS493 hV494 ((e485)) ((e486)) ((e487)) (((hF484.1 31 rfl).trans (ex_nd1))) (((hF484.1 15 rfl).trans (ex_op1))) (((hF484.1 19 rfl).trans (ex_sy1))) (((hF484.1 28 rfl).trans (ex_na1))) (((hF484.1 9 rfl).trans (fx_9))) (((hF484.1 29 rfl).trans (fx_29))) (by omega) (by omega) (by omega) (by omega) (by omega) (by omega) (by omega) (by omega) (by omega)
    · have _q : True := trivial
      exfalso
      omega
set_option maxRecDepth 20000 in
set_option maxHeartbeats 4000000 in
theorem c_readPar {X : jX} {k : Nat} (hP : RP X k) {dd : Nat} {Vs : Nat → Prop} {sb pb : Int} (hvb : VB Vs sb) {c0 c1 : jC} {G : Nat → Int} {A : Nat → Nat → Int} {T : jH} {lv : Int} {ln li at0 fk nd sy na vi le op0 tk0 : Int} (hd : 8 * k + 82 ≤ dd) (hW : Wk G A) (e_ln : G 9 = ln) (e_li : G 3 = li) (e_at0 : G 10 = at0) (e_fk : G 16 = fk) (e_nd : G 31 = nd) (e_sy : G 19 = sy) (e_na : G 28 = na) (e_vi : G 29 = vi) (e_le : A 4 (ln).toNat = le) (e_op0 : G 15 = op0) (e_tk0 : G 11 = tk0) (i_LT : LT G A) (i_SV : SV Vs sb G A) (i_PQ : PQ Vs sb pb G A) (h_lv : (-2147483648 : Int) ≤ lv ∧ lv ≤ 2147483647) (p_0 : 0 ≤ lv ∧ lv ≤ 15) (p_1 : 18 - lv ≤ ((k + 1 : Nat) : Int)) (p_2 : fk = 0) (p_3 : ln < li) (p_4 : at0 ≤ le) (p_5 : op0 = 0) (p_6 : nd ≤ 2 * at0 - tz tk0 + 30) (p_7 : sy ≤ na + 2) (p_8 : vi ≤ sy) (p_9 : sb = sy) (p_10 : 1 ≤ tk0) : wk X dd 299 [.ref 66, .int (i32 lv)] (rV c0 c1 G A T) (fun o V' => ∃ (G' : Nat → Int) (A' : Nat → Nat → Int) (r : Int) (ln2 : Int) (at2 : Int) (fk2 : Int) (nd2 : Int) (sy2 : Int) (na2 : Int) (vi2 : Int) (lf2 : Int), V' = rV c0 c1 G' A' T ∧ o = .inl (some (.int (i32 r))) ∧ Wk G' A' ∧ Fr [9, 10, 11, 12, 13, 14, 15, 16, 17, 18, 19, 28, 29, 31] [6, 7, 8, 9, 10, 11, 12, 14, 15, 16, 17, 18, 19, 20, 21, 22, 23, 24, 28] G A G' A' ∧ Pf nd A A' ∧ Fx sr (sy) A A' ∧ Fx [14] (vi) A A' ∧ ((-2147483648 : Int) ≤ r ∧ r ≤ 2147483647) ∧ G' 9 = ln2 ∧ G' 10 = at2 ∧ G' 16 = fk2 ∧ G' 31 = nd2 ∧ G' 19 = sy2 ∧ G' 28 = na2 ∧ G' 29 = vi2 ∧ A' 3 (ln2).toNat = lf2 ∧ (at0 ≤ at2) ∧ (nd ≤ nd2) ∧ (sy ≤ sy2) ∧ (sy2 ≤ na2 + 2) ∧ (vi ≤ vi2) ∧ (vi2 ≤ vi + 1) ∧ (0 ≤ r) ∧ (r ≤ 6999) ∧ (ln ≤ ln2) ∧ (ln2 ≤ li) ∧ (((1 ≤ fk2) ∧ (nd2 - nd ≤ 2 * at2 - (2 * at0 - tz tk0) + 14)) ∨ ((fk2 = 0) ∧ (vi2 = vi) ∧ (ln < ln2) ∧ (nd2 - nd ≤ 2 * at2 - (2 * at0 - tz tk0)) ∧ (at2 < lf2 ∨ li ≤ ln2) ∧ (nd ≤ r) ∧ (r < nd2) ∧ (wSt A' (sy2) pb (wP A' (sy2) pb (k)) (Vs) (r) (nd) (nd2) (sy) (sy2)) ∧ (NX A' (r))))) := by
  obtain ⟨d, rfl⟩ : ∃ d, dd = d + 1 := ⟨dd - 1, by omega⟩
  refine wk_of (e := jm299) rfl (Nat.le_of_ble_eq_true rfl) ?_
  show wj X d jm299 (0, [(0, .ref 66), (1, .int (i32 (lv)))], [], rV c0 c1 G A T) _
  have hF0 : Fr [9, 10, 11, 12, 13, 14, 15, 16, 17, 18, 19, 28, 29, 31] [6, 7, 8, 9, 10, 11, 12, 14, 15, 16, 17, 18, 19, 20, 21, 22, 23, 24, 28] G A G A := Fr_rf
  have hP0 : Pf nd A A := Pf_rf
  have hS0 : Fx sr (sy) A A := Fx_rf
  have hV0 : Fx [14] (vi) A A := Fx_rf
  have b_ln : (0 : Int) ≤ ln ∧ ln ≤ 3000 := e_ln ▸ hW.1 9
  have b_li : (0 : Int) ≤ li ∧ li ≤ 3000 := e_li ▸ hW.1 3
  have b_at0 : (0 : Int) ≤ at0 ∧ at0 ≤ 3002 := e_at0 ▸ hW.1 10
  have b_fk : (0 : Int) ≤ fk ∧ fk ≤ 6 := e_fk ▸ hW.1 16
  have b_nd : (0 : Int) ≤ nd ∧ nd ≤ 6999 := e_nd ▸ hW.1 31
  have b_sy : (0 : Int) ≤ sy ∧ sy ≤ 202 := e_sy ▸ hW.1 19
  have b_na : (0 : Int) ≤ na ∧ na ≤ 200 := e_na ▸ hW.1 28
  have b_vi : (0 : Int) ≤ vi ∧ vi ≤ 202 := e_vi ▸ hW.1 29
  have b_le : (0 : Int) ≤ le ∧ le ≤ 3000 := e_le ▸ hW.2 4 _
  have b_op0 : (-2147483648 : Int) ≤ op0 ∧ op0 ≤ 2147483647 := e_op0 ▸ hW.1 15
  have z_tk0 := tz_f tk0
  have b_tk0 : (0 : Int) ≤ tk0 ∧ tk0 ≤ 5 := e_tk0 ▸ hW.1 11
  refine jx_ld (pc' := 1) (l' := [(0, .ref 66), (1, .int (i32 (lv)))]) (st' := [.ref 66]) rfl (jl_aloadn rfl) ?_
  refine jx_vr (pc' := 4) (as := []) (st := []) rfl rfl rfl rfl ⟨rfl, rfl, Nat.le_of_ble_eq_true rfl⟩ rfl rfl (c_next (dd := d) (hd := by omega) (hW := hW)  (ln := ln) (e_ln := show G 9 = ln from (e_ln)) (le := le) (e_le := show A 4 (ln).toNat = le from (e_le)) (at0 := at0) (e_at0 := show G 10 = at0 from (e_at0))    (p_0 := by omega)) (fun o V' hq => ?_)
  obtain ⟨G505, A506, at2_507, tk2_508, rfl, rfl, hW509, hF510, e511, e512, p513, p514, p515, -⟩ := hq
  have hF517 := Fr_tr hF0 hF510 (Fr_sub (by decide)) (Fr_sub (by decide))
  have hP518 := Pf_f hP0 hF510 (by decide)
  have hS519 := Fx_f hS0 hF510 (by decide)
  have hV520 := Fx_f hV0 hF510 (by decide)
  have bat2_507 : (0 : Int) ≤ at2_507 ∧ at2_507 ≤ 3002 := e511 ▸ hW509.1 10
  have ztk2_508 := tz_b tk2_508
  have btk2_508 : (0 : Int) ≤ tk2_508 ∧ tk2_508 ≤ 5 := e512 ▸ hW509.1 11
  refine .inl ⟨rfl, ?_⟩
  refine jx_ld (pc' := 5) (l' := [(0, .ref 66), (1, .int (i32 (lv)))]) (st' := [.ref 66]) rfl (jl_aloadn rfl) ?_
  have z521 := tz_f (tk2_508)
  refine jr_get (pc' := 8) (i := 11) (v := .int (i32 (tk2_508))) rfl rfl (by decide) (rFv_eq (by decide) (show G505 11 = tk2_508 from (e512))) rfl ?_
  refine jx_if_ne (pc' := 11) (tg := 37) rfl rfl rfl (Int.le_trans (by decide : (-2147483648 : Int) ≤ 0) btk2_508.1) (Int.le_trans btk2_508.2 (by decide : (5 : Int) ≤ 2147483647)) (fun h522 => ?_) (fun h522 => ?_)
  · have _q := h522
    refine jx_ld (pc' := 38) (l' := [(0, .ref 66), (1, .int (i32 (lv)))]) (st' := [.ref 66]) rfl (jl_aloadn rfl) ?_
    have z523 := tz_f (tk2_508)
    refine jr_get (pc' := 41) (i := 11) (v := .int (i32 (tk2_508))) rfl rfl (by decide) (rFv_eq (by decide) (show G505 11 = tk2_508 from (e512))) rfl ?_
    refine jx_ar (pc' := 42) (st' := [.int (i32 (1)), .int (i32 (tk2_508))]) rfl rfl rfl rfl ?_
    refine jx_icmp_eq (pc' := 45) (tg := 56) rfl rfl rfl (Int.le_trans (by decide : (-2147483648 : Int) ≤ 0) btk2_508.1) (Int.le_trans btk2_508.2 (by decide : (5 : Int) ≤ 2147483647)) (by decide) (by decide) (fun h524 => ?_) (fun h524 => ?_)
    · have _q := h524
      refine jx_ld (pc' := 57) (l' := [(0, .ref 66), (1, .int (i32 (lv)))]) (st' := [.ref 66]) rfl (jl_aloadn rfl) ?_
      refine jx_ar (pc' := 59) (st' := [.int (i32 (29)), .ref 66]) rfl rfl rfl rfl ?_
      refine jx_ar (pc' := 60) (st' := [.int (i32 (0)), .int (i32 (29)), .ref 66]) rfl rfl rfl rfl ?_
      refine jx_ar (pc' := 61) (st' := [.int (i32 (0)), .int (i32 (0)), .int (i32 (29)), .ref 66]) rfl rfl rfl rfl ?_
      refine jx_ar (pc' := 62) (st' := [.int (i32 (0)), .int (i32 (0)), .int (i32 (0)), .int (i32 (29)), .ref 66]) rfl rfl rfl rfl ?_
      refine jx_ar (pc' := 63) (st' := [.int (i32 (0)), .int (i32 (0)), .int (i32 (0)), .int (i32 (0)), .int (i32 (29)), .ref 66]) rfl rfl rfl rfl ?_
      refine jx_vr (pc' := 66) (as := [.int (i32 (29)), .int (i32 (0)), .int (i32 (0)), .int (i32 (0)), .int (i32 (0))]) (st := []) rfl rfl rfl rfl ⟨rfl, rfl, Nat.le_of_ble_eq_true rfl⟩ rfl rfl (c_node (dd := d) (hd := by omega) (hW := hW509) (kind := 29) (a := 0) (b := 0) (c := 0) (e := 0) (nd := nd) (e_nd := show G505 31 = nd from ((hF510.1 31 rfl).trans (e_nd)))  (h_kind := ⟨(by decide), (by decide)⟩) (h_a := ⟨(by decide), (by decide)⟩) (h_b := ⟨(by decide), (by decide)⟩) (h_c := ⟨(by decide), (by decide)⟩) (h_e := ⟨(by decide), (by decide)⟩)  (p_0 := by omega) (p_1 := by omega)) (fun o V' hq => ?_)
      obtain ⟨G525, A526, nd2_527, rfl, rfl, hW528, hF529, hQ530, e531, p532, p533, -⟩ := hq
      have hF535 := Fr_tr hF517 hF529 (Fr_sub (by decide)) (Fr_sub (by decide))
      have hP536 := Pf_tr hP518 hQ530 (by omega)
      have hS537 := Fx_f hS519 hF529 (by decide)
      have hV538 := Fx_f hV520 hF529 (by decide)
      have bnd2_527 : (0 : Int) ≤ nd2_527 ∧ nd2_527 ≤ 6999 := e531 ▸ hW528.1 31
      refine .inr ⟨_, rfl, ?_⟩
      refine jx_ld (pc' := 67) (l' := jSto1 [(0, .ref 66), (1, .int (i32 (lv)))] 2 (.int (i32 (nd)))) (st' := []) rfl rfl ?_
      obtain ⟨L539, eL539⟩ : ∃ q, q = jSto1 [(0, .ref 66), (1, .int (i32 (lv)))] 2 (.int (i32 (nd))) := ⟨_, rfl⟩
      rw [← eL539]
      have gL539_0 : jGet L539 0 = some (.ref 66) := eL539 ▸ jg_ne (by decide) (rfl : jGet [(0, .ref 66), (1, .int (i32 (lv)))] 0 = some (.ref 66)) rfl
      have gL539_1 : jGet L539 1 = some (.int (i32 (lv))) := eL539 ▸ jg_ne (by decide) (rfl : jGet [(0, .ref 66), (1, .int (i32 (lv)))] 1 = some (.int (i32 (lv)))) rfl
      have gL539_2 : jGet L539 2 = some (.int (i32 (nd))) := eL539 ▸ jg_eq
      refine jx_ld (pc' := 68) (l' := L539) (st' := [.ref 66]) rfl (jl_aloadn gL539_0) ?_
      refine jr_get (pc' := 71) (i := 34) (v := .ref 84) rfl rfl (by decide) rfl rfl ?_
      refine jx_ld (pc' := 72) (l' := L539) (st' := [.int (i32 (nd)), .ref 84]) rfl (jl_iloadn gL539_2) ?_
      refine jx_ld (pc' := 73) (l' := L539) (st' := [.ref 66, .int (i32 (nd)), .ref 84]) rfl (jl_aloadn gL539_0) ?_
      refine jx_ar (pc' := 75) (st' := [.int (i32 (10)), .ref 66, .int (i32 (nd)), .ref 84]) rfl rfl rfl rfl ?_
      refine jx_ar (pc' := 76) (st' := [.int (i32 (0)), .int (i32 (10)), .ref 66, .int (i32 (nd)), .ref 84]) rfl rfl rfl rfl ?_
      refine jx_vr (pc' := 79) (as := [.int (i32 (10)), .int (i32 (0))]) (st := [.int (i32 (nd)), .ref 84]) rfl rfl rfl rfl ⟨rfl, rfl, Nat.le_of_ble_eq_true rfl⟩ rfl rfl (c_newName (dd := d) (hd := by omega) (hW := hW528) (kind := 10) (many := 0) (sy := sy) (e_sy := show G525 19 = sy from ((hF529.1 19 rfl).trans ((hF510.1 19 rfl).trans (e_sy)))) (na := na) (e_na := show G525 28 = na from ((hF529.1 28 rfl).trans ((hF510.1 28 rfl).trans (e_na)))) (fk := fk) (e_fk := show G525 16 = fk from ((hF529.1 16 rfl).trans ((hF510.1 16 rfl).trans (e_fk))))  (h_kind := ⟨(by decide), (by decide)⟩) (h_many := ⟨(by decide), (by decide)⟩)  (p_0 := by omega) (p_1 := by omega)) (fun o V' hq => ?_)
      obtain ⟨G540, A541, r542, sy2_543, na2_544, fk2_545, yk2_546, rfl, rfl, hW547, hF548, hQ549, b550, e551, e552, e553, e554, q555⟩ := hq
      have hF556 := Fr_tr hF535 hF548 (Fr_sub (by decide)) (Fr_sub (by decide))
      have hP557 := Pf_f hP536 hF548 (by decide)
      have hS558 := Fx_tr hS537 hQ549 (by omega)
      have hV559 := Fx_f hV538 hF548 (by decide)
      have sf560 : ND A541 (nd) (29) (0) (0) (0) (0) (0) (0) := ND_ag (by omega) (Ag_fr hF548 (by decide)) p533
      have bsy2_543 : (0 : Int) ≤ sy2_543 ∧ sy2_543 ≤ 202 := e551 ▸ hW547.1 19
      have bna2_544 : (0 : Int) ≤ na2_544 ∧ na2_544 ≤ 200 := e552 ▸ hW547.1 28
      have bfk2_545 : (0 : Int) ≤ fk2_545 ∧ fk2_545 ≤ 6 := e553 ▸ hW547.1 16
      have byk2_546 : (0 : Int) ≤ yk2_546 ∧ yk2_546 ≤ 14 := e554 ▸ hW547.2 7 _
      refine .inr ⟨_, rfl, ?_⟩
      rcases q555 with ⟨a567, a561, a562, a563, a564, a565, a566⟩ | ⟨rfl, a568, a569, a570⟩
      · have _q : True := trivial
        rw [a567]
        refine jr_st (pc' := 80) (i := 17) (m := 7000) (z := nd) (y := sy) rfl (by decide) rfl (by decide) (by omega) (by omega) rfl ?_
        have hW572 : Wk G540 (uA A541 17 (nd).toNat (sy)) := Wk_a hW547 (show (-2147483648 : Int) ≤ sy by omega) (show sy ≤ (2147483647 : Int) by omega)
        have hF573 := Fr_a (z := sy) (k := 17) (n := (nd).toNat) hF556 (by decide)
        obtain ⟨A571, eA571⟩ : ∃ q, q = uA A541 17 (nd).toNat (sy) := ⟨_, rfl⟩
        rw [← eA571]
        rw [← eA571] at hW572 hF573
        have q574 : A571 17 (nd).toNat = sy := by rw [eA571]; exact uA_eq
        have hP575 : Pf nd A A571 := eA571 ▸ Pf_a hP557 (z := nd) (by omega) (by omega)
        have hS576 : Fx sr (sy) A A571 := eA571 ▸ Fx_n hS558 rfl
        have hV577 : Fx [14] (vi) A A571 := eA571 ▸ Fx_n hV559 rfl
        have sf578 : ND A571 (nd) (29) (sy) (0) (0) (0) (0) (0) := ND_a eA571 sf560
        have sf579 : YD A571 (sy) (10) (0) := YD_fx (by omega) (by omega) (Sg_ne (sb := sy + 1) eA571 rfl) a566
        refine jx_ld (pc' := 81) (l' := L539) (st' := [.ref 66]) rfl (jl_aloadn gL539_0) ?_
        refine jx_ar (pc' := 82) (st' := [.int (i32 (1)), .ref 66]) rfl rfl rfl rfl ?_
        refine jx_vr (pc' := 85) (as := [.int (i32 (1))]) (st := []) rfl rfl rfl rfl ⟨rfl, rfl, Nat.le_of_ble_eq_true rfl⟩ rfl rfl (c_need (dd := d) (hd := by omega) (hW := hW572) (g := 1) (ln := ln) (e_ln := show G540 9 = ln from ((hF548.1 9 rfl).trans ((hF529.1 9 rfl).trans ((hF510.1 9 rfl).trans (e_ln))))) (le := le) (e_le := show A571 4 (ln).toNat = le from (congrFun (((congrFun eA571 4).trans (uA_ne (by decide))).trans ((hF548.2 4 rfl).trans ((hF529.2 4 rfl).trans (hF510.2 4 rfl)))) _).trans (e_le)) (at0 := at2_507) (e_at0 := show G540 10 = at2_507 from ((hF548.1 10 rfl).trans ((hF529.1 10 rfl).trans (e511)))) (fk := fk2_545) (e_fk := show G540 16 = fk2_545 from (e553)) (tk0 := tk2_508) (e_tk0 := show G540 11 = tk2_508 from ((hF548.1 11 rfl).trans ((hF529.1 11 rfl).trans (e512))))  (h_g := ⟨(by decide), (by decide)⟩)  (p_0 := by omega)) (fun o V' hq => ?_)
        obtain ⟨G580, A581, at2_582, tk2_583, fk2_584, rfl, rfl, hW585, hF586, e587, e588, e589, p590, p591, q592⟩ := hq
        have hF593 := Fr_tr hF573 hF586 (Fr_sub (by decide)) (Fr_sub (by decide))
        have hP594 := Pf_f hP575 hF586 (by decide)
        have hS595 := Fx_f hS576 hF586 (by decide)
        have hV596 := Fx_f hV577 hF586 (by decide)
        have sf597 : ND A581 (nd) (29) (sy) (0) (0) (0) (0) (0) := ND_ag (by omega) (Ag_fr hF586 (by decide)) sf578
        have sf598 : YD A581 (sy) (10) (0) := YD_fx (by omega) (by omega) (Sg_fr (sb := sy + 1) hF586 (by decide)) sf579
        have bat2_582 : (0 : Int) ≤ at2_582 ∧ at2_582 ≤ 3002 := e587 ▸ hW585.1 10
        have ztk2_583 := tz_b tk2_583
        have btk2_583 : (0 : Int) ≤ tk2_583 ∧ tk2_583 ≤ 5 := e588 ▸ hW585.1 11
        have bfk2_584 : (0 : Int) ≤ fk2_584 ∧ fk2_584 ≤ 6 := e589 ▸ hW585.1 16
        refine .inl ⟨rfl, ?_⟩
        rcases q592 with ⟨a599, a600, a601, a602⟩ | ⟨a603, a604, a605, a606⟩
        · have _q : True := trivial
          have z607 := tz_f (tk2_583)
          exact c_readPar_at_85p (X := X) (k := k) (hP := hP) (d := d) (Vs := Vs) (sb := sb) (pb := pb) (hvb := hvb) (c0 := c0) (c1 := c1) (G := G) (A := A) (T := T) (lv := lv) (ln := ln) (li := li) (at0 := at0) (fk := fk) (nd := nd) (sy := sy) (na := na) (vi := vi) (le := le) (op0 := op0) (tk0 := tk0) (hd := hd) (hW := hW) (e_ln := e_ln) (e_li := e_li) (e_at0 := e_at0) (e_fk := e_fk) (e_nd := e_nd) (e_sy := e_sy) (e_na := e_na) (e_vi := e_vi) (e_le := e_le) (e_op0 := e_op0) (e_tk0 := e_tk0) (i_LT := i_LT) (i_SV := i_SV) (i_PQ := i_PQ) (h_lv := h_lv) (p_0 := p_0) (p_1 := p_1) (p_2 := p_2) (p_3 := p_3) (p_4 := p_4) (p_5 := p_5) (p_6 := p_6) (p_7 := p_7) (p_8 := p_8) (p_9 := p_9) (p_10 := p_10) L539 G580 A581 (nd) (at2_582) (tk2_583) (fk2_584) (nd2_527) (op0) (sy2_543) (na2_544) gL539_0 gL539_1 gL539_2 hW585 hF593 hP594 hS595 hV596 ((e587)) ((e588)) ((e589)) (((hF586.1 31 rfl).trans ((hF548.1 31 rfl).trans (e531)))) (((hF586.1 15 rfl).trans ((hF548.1 15 rfl).trans ((hF529.1 15 rfl).trans ((hF510.1 15 rfl).trans (e_op0)))))) (((hF586.1 19 rfl).trans (e551))) (((hF586.1 28 rfl).trans (e552))) (((hF586.1 9 rfl).trans ((hF548.1 9 rfl).trans ((hF529.1 9 rfl).trans ((hF510.1 9 rfl).trans (e_ln)))))) (((hF586.1 29 rfl).trans ((hF548.1 29 rfl).trans ((hF529.1 29 rfl).trans ((hF510.1 29 rfl).trans (e_vi)))))) (by omega) (by omega) (by omega) (by omega) (by omega) (by omega) (by omega) (by omega) (by omega)
        · have _q : True := trivial
          have z608 := tz_f (tk2_583)
          exact c_readPar_at_85 (X := X) (k := k) (hP := hP) (d := d) (Vs := Vs) (sb := sb) (pb := pb) (hvb := hvb) (c0 := c0) (c1 := c1) (G := G) (A := A) (T := T) (lv := lv) (ln := ln) (li := li) (at0 := at0) (fk := fk) (nd := nd) (sy := sy) (na := na) (vi := vi) (le := le) (op0 := op0) (tk0 := tk0) (hd := hd) (hW := hW) (e_ln := e_ln) (e_li := e_li) (e_at0 := e_at0) (e_fk := e_fk) (e_nd := e_nd) (e_sy := e_sy) (e_na := e_na) (e_vi := e_vi) (e_le := e_le) (e_op0 := e_op0) (e_tk0 := e_tk0) (i_LT := i_LT) (i_SV := i_SV) (i_PQ := i_PQ) (h_lv := h_lv) (p_0 := p_0) (p_1 := p_1) (p_2 := p_2) (p_3 := p_3) (p_4 := p_4) (p_5 := p_5) (p_6 := p_6) (p_7 := p_7) (p_8 := p_8) (p_9 := p_9) (p_10 := p_10) L539 G580 A581 (nd) (at2_582) (tk2_583) (fk2_584) (nd2_527) (op0) (sy2_543) (na2_544) (sy) (yk2_546) gL539_0 gL539_1 gL539_2 hW585 hF593 hP594 hS595 hV596 ((e587)) ((e588)) ((e589)) (((hF586.1 31 rfl).trans ((hF548.1 31 rfl).trans (e531)))) (((hF586.1 15 rfl).trans ((hF548.1 15 rfl).trans ((hF529.1 15 rfl).trans ((hF510.1 15 rfl).trans (e_op0)))))) (((hF586.1 19 rfl).trans (e551))) (((hF586.1 28 rfl).trans (e552))) ((congrFun (hF586.2 17 rfl) _).trans (q574)) ((congrFun ((hF586.2 7 rfl).trans ((congrFun eA571 7).trans (uA_ne (by decide)))) _).trans (e554)) (((hF586.1 9 rfl).trans ((hF548.1 9 rfl).trans ((hF529.1 9 rfl).trans ((hF510.1 9 rfl).trans (e_ln)))))) (((hF586.1 29 rfl).trans ((hF548.1 29 rfl).trans ((hF529.1 29 rfl).trans ((hF510.1 29 rfl).trans (e_vi)))))) (by omega) (by omega) (by omega) (by omega) (by omega) (by omega) (by omega) (by omega) (by omega) (by omega) (by omega) (by omega) (by omega) (sf597)
      · have _q : True := trivial
        refine jr_st (pc' := 80) (i := 17) (m := 7000) (z := nd) (y := 0) rfl (by decide) rfl (by decide) (by omega) (by omega) rfl ?_
        have hW610 : Wk G540 (uA A541 17 (nd).toNat (0)) := Wk_a hW547 (show (-2147483648 : Int) ≤ 0 by omega) (show 0 ≤ (2147483647 : Int) by omega)
        have hF611 := Fr_a (z := 0) (k := 17) (n := (nd).toNat) hF556 (by decide)
        obtain ⟨A609, eA609⟩ : ∃ q, q = uA A541 17 (nd).toNat (0) := ⟨_, rfl⟩
        rw [← eA609]
        rw [← eA609] at hW610 hF611
        have q612 : A609 17 (nd).toNat = 0 := by rw [eA609]; exact uA_eq
        have hP613 : Pf nd A A609 := eA609 ▸ Pf_a hP557 (z := nd) (by omega) (by omega)
        have hS614 : Fx sr (sy) A A609 := eA609 ▸ Fx_n hS558 rfl
        have hV615 : Fx [14] (vi) A A609 := eA609 ▸ Fx_n hV559 rfl
        have sf616 : ND A609 (nd) (29) (0) (0) (0) (0) (0) (0) := ND_a eA609 sf560
        refine jx_ld (pc' := 81) (l' := L539) (st' := [.ref 66]) rfl (jl_aloadn gL539_0) ?_
        refine jx_ar (pc' := 82) (st' := [.int (i32 (1)), .ref 66]) rfl rfl rfl rfl ?_
        refine jx_vr (pc' := 85) (as := [.int (i32 (1))]) (st := []) rfl rfl rfl rfl ⟨rfl, rfl, Nat.le_of_ble_eq_true rfl⟩ rfl rfl (c_need (dd := d) (hd := by omega) (hW := hW610) (g := 1) (ln := ln) (e_ln := show G540 9 = ln from ((hF548.1 9 rfl).trans ((hF529.1 9 rfl).trans ((hF510.1 9 rfl).trans (e_ln))))) (le := le) (e_le := show A609 4 (ln).toNat = le from (congrFun (((congrFun eA609 4).trans (uA_ne (by decide))).trans ((hF548.2 4 rfl).trans ((hF529.2 4 rfl).trans (hF510.2 4 rfl)))) _).trans (e_le)) (at0 := at2_507) (e_at0 := show G540 10 = at2_507 from ((hF548.1 10 rfl).trans ((hF529.1 10 rfl).trans (e511)))) (fk := fk2_545) (e_fk := show G540 16 = fk2_545 from (e553)) (tk0 := tk2_508) (e_tk0 := show G540 11 = tk2_508 from ((hF548.1 11 rfl).trans ((hF529.1 11 rfl).trans (e512))))  (h_g := ⟨(by decide), (by decide)⟩)  (p_0 := by omega)) (fun o V' hq => ?_)
        obtain ⟨G617, A618, at2_619, tk2_620, fk2_621, rfl, rfl, hW622, hF623, e624, e625, e626, p627, p628, q629⟩ := hq
        have hF630 := Fr_tr hF611 hF623 (Fr_sub (by decide)) (Fr_sub (by decide))
        have hP631 := Pf_f hP613 hF623 (by decide)
        have hS632 := Fx_f hS614 hF623 (by decide)
        have hV633 := Fx_f hV615 hF623 (by decide)
        have sf634 : ND A618 (nd) (29) (0) (0) (0) (0) (0) (0) := ND_ag (by omega) (Ag_fr hF623 (by decide)) sf616
        have bat2_619 : (0 : Int) ≤ at2_619 ∧ at2_619 ≤ 3002 := e624 ▸ hW622.1 10
        have ztk2_620 := tz_b tk2_620
        have btk2_620 : (0 : Int) ≤ tk2_620 ∧ tk2_620 ≤ 5 := e625 ▸ hW622.1 11
        have bfk2_621 : (0 : Int) ≤ fk2_621 ∧ fk2_621 ≤ 6 := e626 ▸ hW622.1 16
        refine .inl ⟨rfl, ?_⟩
        rcases q629 with ⟨a635, a636, a637, a638⟩ | ⟨a639, a640, a641, a642⟩
        · have _q : True := trivial
          have z643 := tz_f (tk2_620)
          exact c_readPar_at_85p (X := X) (k := k) (hP := hP) (d := d) (Vs := Vs) (sb := sb) (pb := pb) (hvb := hvb) (c0 := c0) (c1 := c1) (G := G) (A := A) (T := T) (lv := lv) (ln := ln) (li := li) (at0 := at0) (fk := fk) (nd := nd) (sy := sy) (na := na) (vi := vi) (le := le) (op0 := op0) (tk0 := tk0) (hd := hd) (hW := hW) (e_ln := e_ln) (e_li := e_li) (e_at0 := e_at0) (e_fk := e_fk) (e_nd := e_nd) (e_sy := e_sy) (e_na := e_na) (e_vi := e_vi) (e_le := e_le) (e_op0 := e_op0) (e_tk0 := e_tk0) (i_LT := i_LT) (i_SV := i_SV) (i_PQ := i_PQ) (h_lv := h_lv) (p_0 := p_0) (p_1 := p_1) (p_2 := p_2) (p_3 := p_3) (p_4 := p_4) (p_5 := p_5) (p_6 := p_6) (p_7 := p_7) (p_8 := p_8) (p_9 := p_9) (p_10 := p_10) L539 G617 A618 (nd) (at2_619) (tk2_620) (fk2_621) (nd2_527) (op0) (sy2_543) (na2_544) gL539_0 gL539_1 gL539_2 hW622 hF630 hP631 hS632 hV633 ((e624)) ((e625)) ((e626)) (((hF623.1 31 rfl).trans ((hF548.1 31 rfl).trans (e531)))) (((hF623.1 15 rfl).trans ((hF548.1 15 rfl).trans ((hF529.1 15 rfl).trans ((hF510.1 15 rfl).trans (e_op0)))))) (((hF623.1 19 rfl).trans (e551))) (((hF623.1 28 rfl).trans (e552))) (((hF623.1 9 rfl).trans ((hF548.1 9 rfl).trans ((hF529.1 9 rfl).trans ((hF510.1 9 rfl).trans (e_ln)))))) (((hF623.1 29 rfl).trans ((hF548.1 29 rfl).trans ((hF529.1 29 rfl).trans ((hF510.1 29 rfl).trans (e_vi)))))) (by omega) (by omega) (by omega) (by omega) (by omega) (by omega) (by omega) (by omega) (by omega)
        · have _q : True := trivial
          exfalso
          omega
    · have _q := h524
      refine jx_ld (pc' := 46) (l' := [(0, .ref 66), (1, .int (i32 (lv)))]) (st' := [.ref 66]) rfl (jl_aloadn rfl) ?_
      refine jx_ar (pc' := 47) (st' := [.int (i32 (1)), .ref 66]) rfl rfl rfl rfl ?_
      refine jx_ld (pc' := 48) (l' := [(0, .ref 66), (1, .int (i32 (lv)))]) (st' := [.ref 66, .int (i32 (1)), .ref 66]) rfl (jl_aloadn rfl) ?_
      have b644 : (-3000 : Int) ≤ G505 12 ∧ G505 12 ≤ 3002 := hW509.1 12
      refine jr_get (pc' := 51) (i := 12) (v := .int (i32 (G505 12))) rfl rfl (by decide) rfl rfl ?_
      refine jx_vr (pc' := 54) (as := [.int (i32 (1)), .int (i32 (G505 12))]) (st := []) rfl rfl rfl rfl ⟨rfl, rfl, Nat.le_of_ble_eq_true rfl⟩ rfl rfl (c_fail (dd := d) (hd := by omega) (hW := hW509) (kind := 1) (place := G505 12) (fk := fk) (e_fk := show G505 16 = fk from ((hF510.1 16 rfl).trans (e_fk)))  (h_kind := ⟨(by decide), (by decide)⟩) (h_place := ⟨(Int.le_trans (by decide : (-2147483648 : Int) ≤ -3000) b644.1), (Int.le_trans b644.2 (by decide : (3002 : Int) ≤ 2147483647))⟩)  (p_0 := by omega) (p_1 := by omega)) (fun o V' hq => ?_)
      obtain ⟨G645, A646, fk2_647, rfl, rfl, hW648, hF649, e650, p651, -⟩ := hq
      have hF653 := Fr_tr hF517 hF649 (Fr_sub (by decide)) (Fr_sub (by decide))
      have hP654 := Pf_f hP518 hF649 (by decide)
      have hS655 := Fx_f hS519 hF649 (by decide)
      have hV656 := Fx_f hV520 hF649 (by decide)
      have bfk2_647 : (0 : Int) ≤ fk2_647 ∧ fk2_647 ≤ 6 := e650 ▸ hW648.1 16
      refine .inl ⟨rfl, ?_⟩
      refine jx_ar (pc' := 55) (st' := [.int (i32 (0))]) rfl rfl rfl rfl ?_
      refine jx_rt (v := some (.int (i32 (0)))) rfl rfl rfl rfl rfl rfl ?_
      exact ⟨_, _, _, ln, at2_507, fk2_647, nd, sy, na, vi, A 3 (ln).toNat, rfl, rfl, hW648, hF653, hP654, hS655, hV656, by omega, ((hF649.1 9 rfl).trans ((hF510.1 9 rfl).trans (e_ln))), ((hF649.1 10 rfl).trans (e511)), (e650), ((hF649.1 31 rfl).trans ((hF510.1 31 rfl).trans (e_nd))), ((hF649.1 19 rfl).trans ((hF510.1 19 rfl).trans (e_sy))), ((hF649.1 28 rfl).trans ((hF510.1 28 rfl).trans (e_na))), ((hF649.1 29 rfl).trans ((hF510.1 29 rfl).trans (e_vi))), (congrFun ((hF649.2 3 rfl).trans (hF510.2 3 rfl)) _), by omega, by omega, by omega, by omega, by omega, by omega, by omega, by omega, by omega, by omega, by first | exact Or.inl (⟨by omega, by omega⟩)⟩
  · have _q := h522
    refine jx_ld (pc' := 12) (l' := [(0, .ref 66), (1, .int (i32 (lv)))]) (st' := [.ref 66]) rfl (jl_aloadn rfl) ?_
    refine jx_ar (pc' := 14) (st' := [.int (i32 (28)), .ref 66]) rfl rfl rfl rfl ?_
    refine jx_ar (pc' := 15) (st' := [.int (i32 (0)), .int (i32 (28)), .ref 66]) rfl rfl rfl rfl ?_
    refine jx_ar (pc' := 16) (st' := [.int (i32 (0)), .int (i32 (0)), .int (i32 (28)), .ref 66]) rfl rfl rfl rfl ?_
    refine jx_ar (pc' := 17) (st' := [.int (i32 (0)), .int (i32 (0)), .int (i32 (0)), .int (i32 (28)), .ref 66]) rfl rfl rfl rfl ?_
    refine jx_ar (pc' := 18) (st' := [.int (i32 (0)), .int (i32 (0)), .int (i32 (0)), .int (i32 (0)), .int (i32 (28)), .ref 66]) rfl rfl rfl rfl ?_
    refine jx_vr (pc' := 21) (as := [.int (i32 (28)), .int (i32 (0)), .int (i32 (0)), .int (i32 (0)), .int (i32 (0))]) (st := []) rfl rfl rfl rfl ⟨rfl, rfl, Nat.le_of_ble_eq_true rfl⟩ rfl rfl (c_node (dd := d) (hd := by omega) (hW := hW509) (kind := 28) (a := 0) (b := 0) (c := 0) (e := 0) (nd := nd) (e_nd := show G505 31 = nd from ((hF510.1 31 rfl).trans (e_nd)))  (h_kind := ⟨(by decide), (by decide)⟩) (h_a := ⟨(by decide), (by decide)⟩) (h_b := ⟨(by decide), (by decide)⟩) (h_c := ⟨(by decide), (by decide)⟩) (h_e := ⟨(by decide), (by decide)⟩)  (p_0 := by omega) (p_1 := by omega)) (fun o V' hq => ?_)
    obtain ⟨G657, A658, nd2_659, rfl, rfl, hW660, hF661, hQ662, e663, p664, p665, -⟩ := hq
    have hF667 := Fr_tr hF517 hF661 (Fr_sub (by decide)) (Fr_sub (by decide))
    have hP668 := Pf_tr hP518 hQ662 (by omega)
    have hS669 := Fx_f hS519 hF661 (by decide)
    have hV670 := Fx_f hV520 hF661 (by decide)
    have bnd2_659 : (0 : Int) ≤ nd2_659 ∧ nd2_659 ≤ 6999 := e663 ▸ hW660.1 31
    refine .inr ⟨_, rfl, ?_⟩
    refine jx_ld (pc' := 22) (l' := jSto1 [(0, .ref 66), (1, .int (i32 (lv)))] 2 (.int (i32 (nd)))) (st' := []) rfl rfl ?_
    obtain ⟨L671, eL671⟩ : ∃ q, q = jSto1 [(0, .ref 66), (1, .int (i32 (lv)))] 2 (.int (i32 (nd))) := ⟨_, rfl⟩
    rw [← eL671]
    have gL671_0 : jGet L671 0 = some (.ref 66) := eL671 ▸ jg_ne (by decide) (rfl : jGet [(0, .ref 66), (1, .int (i32 (lv)))] 0 = some (.ref 66)) rfl
    have gL671_1 : jGet L671 1 = some (.int (i32 (lv))) := eL671 ▸ jg_ne (by decide) (rfl : jGet [(0, .ref 66), (1, .int (i32 (lv)))] 1 = some (.int (i32 (lv)))) rfl
    have gL671_2 : jGet L671 2 = some (.int (i32 (nd))) := eL671 ▸ jg_eq
    refine jx_ld (pc' := 23) (l' := L671) (st' := [.ref 66]) rfl (jl_aloadn gL671_0) ?_
    refine jx_vr (pc' := 26) (as := []) (st := []) rfl rfl rfl rfl ⟨rfl, rfl, Nat.le_of_ble_eq_true rfl⟩ rfl rfl (c_endLine (dd := d) (hd := by omega) (hW := hW660)  (ln := ln) (e_ln := show G657 9 = ln from ((hF661.1 9 rfl).trans ((hF510.1 9 rfl).trans (e_ln)))) (li := li) (e_li := show G657 3 = li from ((hF661.1 3 rfl).trans ((hF510.1 3 rfl).trans (e_li)))) (fk := fk) (e_fk := show G657 16 = fk from ((hF661.1 16 rfl).trans ((hF510.1 16 rfl).trans (e_fk)))) (tk0 := tk2_508) (e_tk0 := show G657 11 = tk2_508 from ((hF661.1 11 rfl).trans (e512)))    (p_0 := by omega)) (fun o V' hq => ?_)
    obtain ⟨G672, A673, ln2_674, fk2_675, rfl, rfl, hW676, hF677, e678, e679, q680⟩ := hq
    have hF681 := Fr_tr hF667 hF677 (Fr_sub (by decide)) (Fr_sub (by decide))
    have hP682 := Pf_f hP668 hF677 (by decide)
    have hS683 := Fx_f hS669 hF677 (by decide)
    have hV684 := Fx_f hV670 hF677 (by decide)
    have sf685 : ND A673 (nd) (28) (0) (0) (0) (0) (0) (0) := ND_ag (by omega) (Ag_fr hF677 (by decide)) p665
    have bln2_674 : (0 : Int) ≤ ln2_674 ∧ ln2_674 ≤ 3000 := e678 ▸ hW676.1 9
    have bfk2_675 : (0 : Int) ≤ fk2_675 ∧ fk2_675 ≤ 6 := e679 ▸ hW676.1 16
    refine .inl ⟨rfl, ?_⟩
    rcases q680 with ⟨a686, a687, a688, a689, a690⟩ | ⟨a691, a692⟩
    · have _q : True := trivial
      have b693 : (0 : Int) ≤ A 3 (ln2_674).toNat ∧ A 3 (ln2_674).toNat ≤ 3000 := hW.2 3 _
      have lt694 : ln2_674 < li → le < A 3 (ln2_674).toNat := fun hh => LT_nx (LT_ext (((hF677.1 3 rfl).trans ((hF661.1 3 rfl).trans (hF510.1 3 rfl)))) (((hF677.2 3 rfl).trans ((hF661.2 3 rfl).trans (hF510.2 3 rfl)))) (((hF677.2 4 rfl).trans ((hF661.2 4 rfl).trans (hF510.2 4 rfl)))) i_LT) (show G672 3 = li from ((hF677.1 3 rfl).trans ((hF661.1 3 rfl).trans ((hF510.1 3 rfl).trans (e_li))))) (show A673 4 (ln).toNat = le from (congrFun ((hF677.2 4 rfl).trans ((hF661.2 4 rfl).trans (hF510.2 4 rfl))) _).trans (e_le)) (show A673 3 (ln2_674).toNat = A 3 (ln2_674).toNat from (congrFun ((hF677.2 3 rfl).trans ((hF661.2 3 rfl).trans (hF510.2 3 rfl))) _)) (show ln2_674 = ln + 1 by omega) (by omega) hh
      refine jx_ld (pc' := 27) (l' := L671) (st' := [.ref 66]) rfl (jl_aloadn gL671_0) ?_
      refine jx_ld (pc' := 28) (l' := L671) (st' := [.int (i32 (nd)), .ref 66]) rfl (jl_iloadn gL671_2) ?_
      refine jx_ld (pc' := 29) (l' := L671) (st' := [.int (i32 (lv)), .int (i32 (nd)), .ref 66]) rfl (jl_iloadn gL671_1) ?_
      refine jx_ar (pc' := 30) (st' := [.int (i32 (2)), .int (i32 (lv)), .int (i32 (nd)), .ref 66]) rfl rfl rfl rfl ?_
      refine jx_ar (pc' := 32) (st' := [.int (i32 (8)), .int (i32 (2)), .int (i32 (lv)), .int (i32 (nd)), .ref 66]) rfl rfl rfl rfl ?_
      refine jx_vr (pc' := 35) (as := [.int (i32 (nd)), .int (i32 (lv)), .int (i32 (2)), .int (i32 (8))]) (st := []) rfl rfl rfl rfl ⟨rfl, rfl, Nat.le_of_ble_eq_true rfl⟩ rfl rfl (c_readChildren (dd := d) (hP := hP) (zz := nd) (hd := by omega) (hW := hW676) (n := nd) (lv := lv) (least := 2) (mo := 8) (kk := 28) (aa := 0) (bb := 0) (cc := 0) (de := 0) (xx := 0) (ln := ln2_674) (e_ln := show G672 9 = ln2_674 from (e678)) (li := li) (e_li := show G672 3 = li from ((hF677.1 3 rfl).trans ((hF661.1 3 rfl).trans ((hF510.1 3 rfl).trans (e_li))))) (at0 := at2_507) (e_at0 := show G672 10 = at2_507 from ((hF677.1 10 rfl).trans ((hF661.1 10 rfl).trans (e511)))) (fk := fk2_675) (e_fk := show G672 16 = fk2_675 from (e679)) (nd := nd2_659) (e_nd := show G672 31 = nd2_659 from ((hF677.1 31 rfl).trans (e663))) (sy := sy) (e_sy := show G672 19 = sy from ((hF677.1 19 rfl).trans ((hF661.1 19 rfl).trans ((hF510.1 19 rfl).trans (e_sy))))) (na := na) (e_na := show G672 28 = na from ((hF677.1 28 rfl).trans ((hF661.1 28 rfl).trans ((hF510.1 28 rfl).trans (e_na))))) (vi := vi) (e_vi := show G672 29 = vi from ((hF677.1 29 rfl).trans ((hF661.1 29 rfl).trans ((hF510.1 29 rfl).trans (e_vi))))) (lf := A 3 (ln2_674).toNat) (e_lf := show A673 3 (ln2_674).toNat = A 3 (ln2_674).toNat from (congrFun ((hF677.2 3 rfl).trans ((hF661.2 3 rfl).trans (hF510.2 3 rfl))) _)) (i_LT := (LT_ext (((hF677.1 3 rfl).trans ((hF661.1 3 rfl).trans (hF510.1 3 rfl)))) (((hF677.2 3 rfl).trans ((hF661.2 3 rfl).trans (hF510.2 3 rfl)))) (((hF677.2 4 rfl).trans ((hF661.2 4 rfl).trans (hF510.2 4 rfl)))) i_LT)) (i_SV := (SV_fx i_SV e_vi (show G672 29 = vi from ((hF677.1 29 rfl).trans ((hF661.1 29 rfl).trans ((hF510.1 29 rfl).trans (e_vi))))) (by omega) hV684)) (i_PQ := (PQ_fx i_PQ hS683 (by omega) (hF681.2 29 rfl) (hF681.2 30 rfl))) (hvb := hvb) (h_n := ⟨(Int.le_trans (by decide : (-2147483648 : Int) ≤ 0) b_nd.1), (Int.le_trans b_nd.2 (by decide : (6999 : Int) ≤ 2147483647))⟩) (h_lv := ⟨(Int.le_trans (by decide : (-2147483648 : Int) ≤ -2147483648) h_lv.1), (Int.le_trans h_lv.2 (by decide : (2147483647 : Int) ≤ 2147483647))⟩) (h_least := ⟨(by decide), (by decide)⟩) (h_mo := ⟨(by decide), (by decide)⟩)  (p_0 := by omega) (p_1 := by omega) (p_2 := by omega) (p_3 := by omega) (p_4 := by omega) (p_5 := by omega) (p_6 := by omega) (p_7 := by omega) (p_8 := by omega) (p_9 := by omega) (p_10 := by omega) (p_11 := by omega) (p_12 := by omega) (p_13 := by omega) (p_14 := by omega) (p_15 := sf685)) (fun o V' hq => ?_)
      obtain ⟨G695, A696, ln2_697, at2_698, fk2_699, nd2_700, sy2_701, na2_702, vi2_703, lf2_704, mm_705, f2_706, rfl, rfl, hW707, hF708, hQ709, hQ710, hQ711, hQ712, e713, e714, e715, e716, e717, e718, e719, e720, e721, e722, p723, p724, p725, p726, p727, p728, p729, q730⟩ := hq
      have hF731 := Fr_tr hF681 hF708 (Fr_sub (by decide)) (Fr_sub (by decide))
      have hP732 := Pf_tr hP682 hQ709 (by omega)
      have hS733 := Fx_tr hS683 hQ711 (by omega)
      have hV734 := Fx_tr hV684 hQ712 (by omega)
      have bln2_697 : (0 : Int) ≤ ln2_697 ∧ ln2_697 ≤ 3000 := e713 ▸ hW707.1 9
      have bat2_698 : (0 : Int) ≤ at2_698 ∧ at2_698 ≤ 3002 := e714 ▸ hW707.1 10
      have bfk2_699 : (0 : Int) ≤ fk2_699 ∧ fk2_699 ≤ 6 := e715 ▸ hW707.1 16
      have bnd2_700 : (0 : Int) ≤ nd2_700 ∧ nd2_700 ≤ 6999 := e716 ▸ hW707.1 31
      have bsy2_701 : (0 : Int) ≤ sy2_701 ∧ sy2_701 ≤ 202 := e717 ▸ hW707.1 19
      have bna2_702 : (0 : Int) ≤ na2_702 ∧ na2_702 ≤ 200 := e718 ▸ hW707.1 28
      have bvi2_703 : (0 : Int) ≤ vi2_703 ∧ vi2_703 ≤ 202 := e719 ▸ hW707.1 29
      have blf2_704 : (0 : Int) ≤ lf2_704 ∧ lf2_704 ≤ 3000 := e720 ▸ hW707.2 3 _
      have bmm_705 : (-2147483648 : Int) ≤ mm_705 ∧ mm_705 ≤ 2147483647 := e721 ▸ hW707.2 18 _
      have bf2_706 : (-2147483648 : Int) ≤ f2_706 ∧ f2_706 ≤ 2147483647 := e722 ▸ hW707.2 21 _
      refine .inl ⟨rfl, ?_⟩
      rcases q730 with ⟨a735, a736⟩ | ⟨a737, a738, a739, a740, a741, a742, a743⟩
      · have _q : True := trivial
        refine jx_ld (pc' := 36) (l' := L671) (st' := [.int (i32 (nd))]) rfl (jl_iloadn gL671_2) ?_
        refine jx_rt (v := some (.int (i32 (nd)))) rfl rfl rfl rfl rfl rfl ?_
        exact ⟨_, _, _, ln2_697, at2_698, fk2_699, nd2_700, sy2_701, na2_702, vi2_703, lf2_704, rfl, rfl, hW707, hF731, hP732, hS733, hV734, by omega, (e713), (e714), (e715), (e716), (e717), (e718), (e719), (e720), by omega, by omega, by omega, by omega, by omega, by omega, by omega, by omega, by omega, by omega, by first | exact Or.inl (⟨by omega, by omega⟩)⟩
      · have _q : True := trivial
        refine jx_ld (pc' := 36) (l' := L671) (st' := [.int (i32 (nd))]) rfl (jl_iloadn gL671_2) ?_
        refine jx_rt (v := some (.int (i32 (nd)))) rfl rfl rfl rfl rfl rfl ?_
        exact ⟨_, _, _, ln2_697, at2_698, fk2_699, nd2_700, sy2_701, na2_702, vi2_703, lf2_704, rfl, rfl, hW707, hF731, hP732, hS733, hV734, by omega, (e713), (e714), (e715), (e716), (e717), (e718), (e719), (e720), by omega, by omega, by omega, by omega, by omega, by omega, by omega, by omega, by omega, by omega, by first | exact Or.inr ((⟨by omega, by omega, by omega, by omega, by omega, by omega, by omega, (wS_par a742 (RL_eq a743 (by omega) (by omega) (by omega) (by omega) (by omega)) (by omega) (by omega) (by omega)), (NX_nd a742)⟩))⟩
    · have _q : True := trivial
      refine jx_ld (pc' := 27) (l' := L671) (st' := [.ref 66]) rfl (jl_aloadn gL671_0) ?_
      refine jx_ld (pc' := 28) (l' := L671) (st' := [.int (i32 (nd)), .ref 66]) rfl (jl_iloadn gL671_2) ?_
      refine jx_ld (pc' := 29) (l' := L671) (st' := [.int (i32 (lv)), .int (i32 (nd)), .ref 66]) rfl (jl_iloadn gL671_1) ?_
      refine jx_ar (pc' := 30) (st' := [.int (i32 (2)), .int (i32 (lv)), .int (i32 (nd)), .ref 66]) rfl rfl rfl rfl ?_
      refine jx_ar (pc' := 32) (st' := [.int (i32 (8)), .int (i32 (2)), .int (i32 (lv)), .int (i32 (nd)), .ref 66]) rfl rfl rfl rfl ?_
      refine jx_vr (pc' := 35) (as := [.int (i32 (nd)), .int (i32 (lv)), .int (i32 (2)), .int (i32 (8))]) (st := []) rfl rfl rfl rfl ⟨rfl, rfl, Nat.le_of_ble_eq_true rfl⟩ rfl rfl (c_readChildren_f (dd := d) (zz := nd) (hd := by omega) (hW := hW676) (n := nd) (lv := lv) (least := 2) (mo := 8) (fk := fk2_675) (e_fk := show G672 16 = fk2_675 from (e679))  (h_n := ⟨(Int.le_trans (by decide : (-2147483648 : Int) ≤ 0) b_nd.1), (Int.le_trans b_nd.2 (by decide : (6999 : Int) ≤ 2147483647))⟩) (h_lv := ⟨(Int.le_trans (by decide : (-2147483648 : Int) ≤ -2147483648) h_lv.1), (Int.le_trans h_lv.2 (by decide : (2147483647 : Int) ≤ 2147483647))⟩) (h_least := ⟨(by decide), (by decide)⟩) (h_mo := ⟨(by decide), (by decide)⟩)  (p_0 := by omega) (p_1 := by omega) (p_2 := by omega) (p_3 := by omega)) (fun o V' hq => ?_)
      obtain ⟨G744, A745, fk2_746, rfl, rfl, hW747, hF748, hQ749, e750, p751, -⟩ := hq
      have hF753 := Fr_tr hF681 hF748 (Fr_sub (by decide)) (Fr_sub (by decide))
      have hP754 := Pf_tr hP682 hQ749 (by omega)
      have hS755 := Fx_f hS683 hF748 (by decide)
      have hV756 := Fx_f hV684 hF748 (by decide)
      have bfk2_746 : (0 : Int) ≤ fk2_746 ∧ fk2_746 ≤ 6 := e750 ▸ hW747.1 16
      refine .inl ⟨rfl, ?_⟩
      refine jx_ld (pc' := 36) (l' := L671) (st' := [.int (i32 (nd))]) rfl (jl_iloadn gL671_2) ?_
      refine jx_rt (v := some (.int (i32 (nd)))) rfl rfl rfl rfl rfl rfl ?_
      exact ⟨_, _, _, ln2_674, at2_507, fk2_746, nd2_659, sy, na, vi, A 3 (ln2_674).toNat, rfl, rfl, hW747, hF753, hP754, hS755, hV756, by omega, ((hF748.1 9 rfl).trans (e678)), ((hF748.1 10 rfl).trans ((hF677.1 10 rfl).trans ((hF661.1 10 rfl).trans (e511)))), (e750), ((hF748.1 31 rfl).trans ((hF677.1 31 rfl).trans (e663))), ((hF748.1 19 rfl).trans ((hF677.1 19 rfl).trans ((hF661.1 19 rfl).trans ((hF510.1 19 rfl).trans (e_sy))))), ((hF748.1 28 rfl).trans ((hF677.1 28 rfl).trans ((hF661.1 28 rfl).trans ((hF510.1 28 rfl).trans (e_na))))), ((hF748.1 29 rfl).trans ((hF677.1 29 rfl).trans ((hF661.1 29 rfl).trans ((hF510.1 29 rfl).trans (e_vi))))), (congrFun ((hF748.2 3 rfl).trans ((hF677.2 3 rfl).trans ((hF661.2 3 rfl).trans (hF510.2 3 rfl)))) _), by omega, by omega, by omega, by omega, by omega, by omega, by omega, by omega, by omega, by omega, by first | exact Or.inl (⟨by omega, by omega⟩)⟩
