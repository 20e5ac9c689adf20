set_option maxRecDepth 20000 in
set_option maxHeartbeats 4000000 in
theorem c_readSeq {X : jX} {k : Nat} (hP : RP X k) {dd : Nat} {c0 c1 : jC} {G : Nat → Int} {A : Nat → Nat → Int} {T : jH} {lv : Int} {ln li at0 fk nd sy na vi le op0 tk0 : Int} (hd : 8 * k + 82 ≤ dd) (hW : Wk G A) (e_ln : G 9 = ln) (e_li : G 3 = li) (e_at0 : G 10 = at0) (e_fk : G 16 = fk) (e_nd : G 31 = nd) (e_sy : G 19 = sy) (e_na : G 28 = na) (e_vi : G 29 = vi) (e_le : A 4 (ln).toNat = le) (e_op0 : G 15 = op0) (e_tk0 : G 11 = tk0) (i_LT : LT G A) (h_lv : (-2147483648 : Int) ≤ lv ∧ lv ≤ 2147483647) (p_0 : 0 ≤ lv ∧ lv ≤ 15) (p_1 : 18 - lv ≤ ((k + 1 : Nat) : Int)) (p_2 : fk = 0) (p_3 : ln < li) (p_4 : at0 ≤ le) (p_5 : op0 = 0) (p_6 : nd ≤ 2 * at0 - tz tk0 + 30) (p_7 : sy ≤ na + 2) (p_8 : vi ≤ sy) (p_9 : 1 ≤ tk0) : wk X dd 297 [.ref 66, .int (i32 lv)] (rV c0 c1 G A T) (fun o V' => ∃ (G' : Nat → Int) (A' : Nat → Nat → Int) (r : Int) (ln2 : Int) (at2 : Int) (fk2 : Int) (nd2 : Int) (sy2 : Int) (na2 : Int) (vi2 : Int) (lf2 : Int), V' = rV c0 c1 G' A' T ∧ o = .inl (some (.int (i32 r))) ∧ Wk G' A' ∧ Fr [9, 10, 11, 12, 13, 14, 15, 16, 17, 18, 19, 28, 29, 31] [6, 7, 8, 9, 10, 11, 12, 14, 15, 16, 17, 18, 19, 20, 21, 22, 23, 24, 28] G A G' A' ∧ Pf nd A A' ∧ ((-2147483648 : Int) ≤ r ∧ r ≤ 2147483647) ∧ G' 9 = ln2 ∧ G' 10 = at2 ∧ G' 16 = fk2 ∧ G' 31 = nd2 ∧ G' 19 = sy2 ∧ G' 28 = na2 ∧ G' 29 = vi2 ∧ A' 3 (ln2).toNat = lf2 ∧ (at0 ≤ at2) ∧ (nd ≤ nd2) ∧ (sy ≤ sy2) ∧ (sy2 ≤ na2 + 2) ∧ (vi ≤ vi2) ∧ (vi2 ≤ vi + 1) ∧ (0 ≤ r) ∧ (r ≤ 6999) ∧ (ln ≤ ln2) ∧ (ln2 ≤ li) ∧ (((1 ≤ fk2) ∧ (nd2 - nd ≤ 2 * at2 - (2 * at0 - tz tk0) + 14)) ∨ ((fk2 = 0) ∧ (vi2 = vi) ∧ (ln < ln2) ∧ (nd2 - nd ≤ 2 * at2 - (2 * at0 - tz tk0)) ∧ (at2 < lf2 ∨ li ≤ ln2) ∧ (nd ≤ r) ∧ (r < nd2)))) := by
  obtain ⟨d, rfl⟩ : ∃ d, dd = d + 1 := ⟨dd - 1, by omega⟩
  refine wk_of (e := jm297) rfl (Nat.le_of_ble_eq_true rfl) ?_
  show wj X d jm297 (0, [(0, .ref 66), (1, .int (i32 (lv)))], [], rV c0 c1 G A T) _
  have hF0 : Fr [9, 10, 11, 12, 13, 14, 15, 16, 17, 18, 19, 28, 29, 31] [6, 7, 8, 9, 10, 11, 12, 14, 15, 16, 17, 18, 19, 20, 21, 22, 23, 24, 28] G A G A := Fr_rf
  have hP0 : Pf nd A A := Pf_rf
  have b_ln : (0 : Int) ≤ ln ∧ ln ≤ 3000 := e_ln ▸ hW.1 9
  have b_li : (0 : Int) ≤ li ∧ li ≤ 3000 := e_li ▸ hW.1 3
  have b_at0 : (0 : Int) ≤ at0 ∧ at0 ≤ 3002 := e_at0 ▸ hW.1 10
  have b_fk : (0 : Int) ≤ fk ∧ fk ≤ 6 := e_fk ▸ hW.1 16
  have b_nd : (0 : Int) ≤ nd ∧ nd ≤ 6999 := e_nd ▸ hW.1 31
  have b_sy : (0 : Int) ≤ sy ∧ sy ≤ 202 := e_sy ▸ hW.1 19
  have b_na : (0 : Int) ≤ na ∧ na ≤ 200 := e_na ▸ hW.1 28
  have b_vi : (0 : Int) ≤ vi ∧ vi ≤ 202 := e_vi ▸ hW.1 29
  have b_le : (0 : Int) ≤ le ∧ le ≤ 3000 := e_le ▸ hW.2 4 _
  have b_op0 : (-2147483648 : Int) ≤ op0 ∧ op0 ≤ 2147483647 := e_op0 ▸ hW.1 15
  have z_tk0 := tz_f tk0
  have b_tk0 : (0 : Int) ≤ tk0 ∧ tk0 ≤ 5 := e_tk0 ▸ hW.1 11
  have at_126 : ∀ (L : jL) (Gx : Nat → Int) (Ax : Nat → Nat → Int) (n at1 tk1 fk1 nd1 op1 sy1 na1 sa1 : Int), jGet L 0 = some (.ref 66) → jGet L 1 = some (.int (i32 (lv))) → jGet L 2 = some (.int (i32 n)) → Wk Gx Ax → Fr [9, 10, 11, 12, 13, 14, 15, 16, 17, 18, 19, 28, 29, 31] [6, 7, 8, 9, 10, 11, 12, 14, 15, 16, 17, 18, 19, 20, 21, 22, 23, 24, 28] G A Gx Ax → Pf nd A Ax → Gx 10 = at1 → Gx 11 = tk1 → Gx 16 = fk1 → Gx 31 = nd1 → Gx 15 = op1 → Gx 19 = sy1 → Gx 28 = na1 → Ax 17 (n).toNat = sa1 → Gx 9 = ln → Gx 29 = vi → ((-2147483648 : Int) ≤ n ∧ n ≤ 2147483647) → (fk1 = 0) → (at0 ≤ at1) → (at1 ≤ le) → (nd ≤ n ∧ n ≤ 6998 ∧ n < nd1) → (sy ≤ sy1) → (sy1 ≤ na1 + 2) → (op1 = 0) → (0 ≤ sa1 ∧ sa1 ≤ 201) → (vi < sy1) → (nd1 - nd ≤ (2 * at1 - tz tk1) - (2 * at0 - tz tk0)) → wj X d jm297 (126, L, [], rV c0 c1 Gx Ax T) (fun o V' => ∃ (G' : Nat → Int) (A' : Nat → Nat → Int) (r : Int) (ln2 : Int) (at2 : Int) (fk2 : Int) (nd2 : Int) (sy2 : Int) (na2 : Int) (vi2 : Int) (lf2 : Int), V' = rV c0 c1 G' A' T ∧ o = .inl (some (.int (i32 r))) ∧ Wk G' A' ∧ Fr [9, 10, 11, 12, 13, 14, 15, 16, 17, 18, 19, 28, 29, 31] [6, 7, 8, 9, 10, 11, 12, 14, 15, 16, 17, 18, 19, 20, 21, 22, 23, 24, 28] G A G' A' ∧ Pf nd A A' ∧ ((-2147483648 : Int) ≤ r ∧ r ≤ 2147483647) ∧ G' 9 = ln2 ∧ G' 10 = at2 ∧ G' 16 = fk2 ∧ G' 31 = nd2 ∧ G' 19 = sy2 ∧ G' 28 = na2 ∧ G' 29 = vi2 ∧ A' 3 (ln2).toNat = lf2 ∧ (at0 ≤ at2) ∧ (nd ≤ nd2) ∧ (sy ≤ sy2) ∧ (sy2 ≤ na2 + 2) ∧ (vi ≤ vi2) ∧ (vi2 ≤ vi + 1) ∧ (0 ≤ r) ∧ (r ≤ 6999) ∧ (ln ≤ ln2) ∧ (ln2 ≤ li) ∧ (((1 ≤ fk2) ∧ (nd2 - nd ≤ 2 * at2 - (2 * at0 - tz tk0) + 14)) ∨ ((fk2 = 0) ∧ (vi2 = vi) ∧ (ln < ln2) ∧ (nd2 - nd ≤ 2 * at2 - (2 * at0 - tz tk0)) ∧ (at2 < lf2 ∨ li ≤ ln2) ∧ (nd ≤ r) ∧ (r < nd2)))) := by
    intro L Gx Ax n at1 tk1 fk1 nd1 op1 sy1 na1 sa1 gL_0 gL_1 gL_2 hWx hFx hPx ex_at1 ex_tk1 ex_fk1 ex_nd1 ex_op1 ex_sy1 ex_na1 ex_sa1 fx_9 fx_29 rx_n iv_0 iv_1 iv_2 iv_3 iv_4 iv_5 iv_6 iv_7 iv_8 iv_9
    have b_at1 : (0 : Int) ≤ at1 ∧ at1 ≤ 3002 := ex_at1 ▸ hWx.1 10
    have z_tk1 := tz_f tk1
    have b_tk1 : (0 : Int) ≤ tk1 ∧ tk1 ≤ 5 := ex_tk1 ▸ hWx.1 11
    have b_fk1 : (0 : Int) ≤ fk1 ∧ fk1 ≤ 6 := ex_fk1 ▸ hWx.1 16
    have b_nd1 : (0 : Int) ≤ nd1 ∧ nd1 ≤ 6999 := ex_nd1 ▸ hWx.1 31
    have b_op1 : (-2147483648 : Int) ≤ op1 ∧ op1 ≤ 2147483647 := ex_op1 ▸ hWx.1 15
    have b_sy1 : (0 : Int) ≤ sy1 ∧ sy1 ≤ 202 := ex_sy1 ▸ hWx.1 19
    have b_na1 : (0 : Int) ≤ na1 ∧ na1 ≤ 200 := ex_na1 ▸ hWx.1 28
    refine jx_ld (pc' := 127) (l' := L) (st' := [.ref 66]) rfl (jl_aloadn gL_0) ?_
    refine jx_vr (pc' := 130) (as := []) (st := []) rfl rfl rfl rfl ⟨rfl, rfl, Nat.le_of_ble_eq_true rfl⟩ rfl rfl (c_endLine (dd := d) (hd := by omega) (hW := hWx)  (ln := ln) (e_ln := show Gx 9 = ln from (fx_9)) (li := li) (e_li := show Gx 3 = li from ((hFx.1 3 rfl).trans (e_li))) (fk := fk1) (e_fk := show Gx 16 = fk1 from (ex_fk1)) (tk0 := tk1) (e_tk0 := show Gx 11 = tk1 from (ex_tk1))    (p_0 := by omega)) (fun o V' hq => ?_)
    obtain ⟨G1, A2, ln2_3, fk2_4, rfl, rfl, hW5, hF6, e7, e8, q9⟩ := hq
    have hF10 := Fr_tr hFx hF6 (Fr_sub (by decide)) (Fr_sub (by decide))
    have hP11 := Pf_f hPx hF6 (by decide)
    have bln2_3 : (0 : Int) ≤ ln2_3 ∧ ln2_3 ≤ 3000 := e7 ▸ hW5.1 9
    have bfk2_4 : (0 : Int) ≤ fk2_4 ∧ fk2_4 ≤ 6 := e8 ▸ hW5.1 16
    refine .inl ⟨rfl, ?_⟩
    rcases q9 with ⟨a12, a13, a14, a15, a16⟩ | ⟨a17, a18⟩
    · have _q : True := trivial
      have b19 : (0 : Int) ≤ A 3 (ln2_3).toNat ∧ A 3 (ln2_3).toNat ≤ 3000 := hW.2 3 _
      have lt20 : ln2_3 < li → le < A 3 (ln2_3).toNat := fun hh => LT_nx (LT_ext (((hF6.1 3 rfl).trans (hFx.1 3 rfl))) (((hF6.2 3 rfl).trans (hFx.2 3 rfl))) (((hF6.2 4 rfl).trans (hFx.2 4 rfl))) i_LT) (show G1 3 = li from ((hF6.1 3 rfl).trans ((hFx.1 3 rfl).trans (e_li)))) (show A2 4 (ln).toNat = le from (congrFun ((hF6.2 4 rfl).trans (hFx.2 4 rfl)) _).trans (e_le)) (show A2 3 (ln2_3).toNat = A 3 (ln2_3).toNat from (congrFun ((hF6.2 3 rfl).trans (hFx.2 3 rfl)) _)) (show ln2_3 = ln + 1 by omega) (by omega) hh
      refine jx_ld (pc' := 131) (l' := L) (st' := [.ref 66]) rfl (jl_aloadn gL_0) ?_
      refine jx_ld (pc' := 132) (l' := L) (st' := [.int (i32 (n)), .ref 66]) rfl (jl_iloadn gL_2) ?_
      refine jx_ld (pc' := 133) (l' := L) (st' := [.int (i32 (lv)), .int (i32 (n)), .ref 66]) rfl (jl_iloadn gL_1) ?_
      refine jx_vr (pc' := 136) (as := [.int (i32 (n)), .int (i32 (lv))]) (st := []) rfl rfl rfl rfl ⟨rfl, rfl, Nat.le_of_ble_eq_true rfl⟩ rfl rfl (c_readIndexed (dd := d) (hP := hP) (zz := nd) (hd := by omega) (hW := hW5) (n := n) (lv := lv) (ln := ln2_3) (e_ln := show G1 9 = ln2_3 from (e7)) (li := li) (e_li := show G1 3 = li from ((hF6.1 3 rfl).trans ((hFx.1 3 rfl).trans (e_li)))) (at0 := at1) (e_at0 := show G1 10 = at1 from ((hF6.1 10 rfl).trans (ex_at1))) (fk := fk2_4) (e_fk := show G1 16 = fk2_4 from (e8)) (nd := nd1) (e_nd := show G1 31 = nd1 from ((hF6.1 31 rfl).trans (ex_nd1))) (sy := sy1) (e_sy := show G1 19 = sy1 from ((hF6.1 19 rfl).trans (ex_sy1))) (na := na1) (e_na := show G1 28 = na1 from ((hF6.1 28 rfl).trans (ex_na1))) (vi := vi) (e_vi := show G1 29 = vi from ((hF6.1 29 rfl).trans (fx_29))) (lf := A 3 (ln2_3).toNat) (e_lf := show A2 3 (ln2_3).toNat = A 3 (ln2_3).toNat from (congrFun ((hF6.2 3 rfl).trans (hFx.2 3 rfl)) _)) (sa := sa1) (e_sa := show A2 17 (n).toNat = sa1 from (congrFun (hF6.2 17 rfl) _).trans (ex_sa1)) (i_LT := (LT_ext (((hF6.1 3 rfl).trans (hFx.1 3 rfl))) (((hF6.2 3 rfl).trans (hFx.2 3 rfl))) (((hF6.2 4 rfl).trans (hFx.2 4 rfl))) i_LT)) (h_n := ⟨(Int.le_trans (by decide : (-2147483648 : Int) ≤ -2147483648) rx_n.1), (Int.le_trans rx_n.2 (by decide : (2147483647 : Int) ≤ 2147483647))⟩) (h_lv := ⟨(Int.le_trans (by decide : (-2147483648 : Int) ≤ -2147483648) h_lv.1), (Int.le_trans h_lv.2 (by decide : (2147483647 : Int) ≤ 2147483647))⟩)  (p_0 := by omega) (p_1 := by omega) (p_2 := by omega) (p_3 := by omega) (p_4 := by omega) (p_5 := by omega) (p_6 := by omega) (p_7 := by omega) (p_8 := by omega) (p_9 := by omega) (p_10 := by omega) (p_11 := by omega) (p_12 := by omega)) (fun o V' hq => ?_)
      obtain ⟨G21, A22, r23, ln2_24, at2_25, fk2_26, nd2_27, sy2_28, na2_29, vi2_30, lf2_31, rfl, rfl, hW32, hF33, hQ34, b35, e36, e37, e38, e39, e40, e41, e42, e43, p44, p45, p46, p47, p48, p49, p50, p51, q52⟩ := hq
      have hF53 := Fr_tr hF10 hF33 (Fr_sub (by decide)) (Fr_sub (by decide))
      have hP54 := Pf_tr hP11 hQ34 (by omega)
      have bln2_24 : (0 : Int) ≤ ln2_24 ∧ ln2_24 ≤ 3000 := e36 ▸ hW32.1 9
      have bat2_25 : (0 : Int) ≤ at2_25 ∧ at2_25 ≤ 3002 := e37 ▸ hW32.1 10
      have bfk2_26 : (0 : Int) ≤ fk2_26 ∧ fk2_26 ≤ 6 := e38 ▸ hW32.1 16
      have bnd2_27 : (0 : Int) ≤ nd2_27 ∧ nd2_27 ≤ 6999 := e39 ▸ hW32.1 31
      have bsy2_28 : (0 : Int) ≤ sy2_28 ∧ sy2_28 ≤ 202 := e40 ▸ hW32.1 19
      have bna2_29 : (0 : Int) ≤ na2_29 ∧ na2_29 ≤ 200 := e41 ▸ hW32.1 28
      have bvi2_30 : (0 : Int) ≤ vi2_30 ∧ vi2_30 ≤ 202 := e42 ▸ hW32.1 29
      have blf2_31 : (0 : Int) ≤ lf2_31 ∧ lf2_31 ≤ 3000 := e43 ▸ hW32.2 3 _
      refine .inr ⟨_, rfl, ?_⟩
      rcases q52 with ⟨a55, a56⟩ | ⟨a57, a58, a59, a60⟩
      · have _q : True := trivial
        refine jx_rt (v := some (.int (i32 (r23)))) rfl rfl rfl rfl rfl rfl ?_
        exact ⟨_, _, _, ln2_24, at2_25, fk2_26, nd2_27, sy2_28, na2_29, vi2_30, lf2_31, rfl, rfl, hW32, hF53, hP54, by omega, (e36), (e37), (e38), (e39), (e40), (e41), (e42), (e43), by omega, by omega, by omega, by omega, by omega, by omega, by omega, by omega, by omega, by omega, by first | exact Or.inl (⟨by omega, by omega⟩) | exact Or.inr ((⟨by omega, by omega, by omega, by omega, by omega, by omega, by omega⟩))⟩
      · have _q : True := trivial
        refine jx_rt (v := some (.int (i32 (r23)))) rfl rfl rfl rfl rfl rfl ?_
        exact ⟨_, _, _, ln2_24, at2_25, fk2_26, nd2_27, sy2_28, na2_29, vi2_30, lf2_31, rfl, rfl, hW32, hF53, hP54, by omega, (e36), (e37), (e38), (e39), (e40), (e41), (e42), (e43), by omega, by omega, by omega, by omega, by omega, by omega, by omega, by omega, by omega, by omega, by first | exact Or.inl (⟨by omega, by omega⟩) | exact Or.inr ((⟨by omega, by omega, by omega, by omega, by omega, by omega, by omega⟩))⟩
    · have _q : True := trivial
      refine jx_ld (pc' := 131) (l' := L) (st' := [.ref 66]) rfl (jl_aloadn gL_0) ?_
      refine jx_ld (pc' := 132) (l' := L) (st' := [.int (i32 (n)), .ref 66]) rfl (jl_iloadn gL_2) ?_
      refine jx_ld (pc' := 133) (l' := L) (st' := [.int (i32 (lv)), .int (i32 (n)), .ref 66]) rfl (jl_iloadn gL_1) ?_
      refine jx_vr (pc' := 136) (as := [.int (i32 (n)), .int (i32 (lv))]) (st := []) rfl rfl rfl rfl ⟨rfl, rfl, Nat.le_of_ble_eq_true rfl⟩ rfl rfl (c_readIndexed_f (dd := d) (hd := by omega) (hW := hW5) (n := n) (lv := lv) (fk := fk2_4) (e_fk := show G1 16 = fk2_4 from (e8))  (h_n := ⟨(Int.le_trans (by decide : (-2147483648 : Int) ≤ -2147483648) rx_n.1), (Int.le_trans rx_n.2 (by decide : (2147483647 : Int) ≤ 2147483647))⟩) (h_lv := ⟨(Int.le_trans (by decide : (-2147483648 : Int) ≤ -2147483648) h_lv.1), (Int.le_trans h_lv.2 (by decide : (2147483647 : Int) ≤ 2147483647))⟩)  (p_0 := by omega)) (fun o V' hq => ?_)
      obtain ⟨r61, rfl, rfl, b62, p63, -⟩ := hq
      refine .inr ⟨_, rfl, ?_⟩
      refine jx_rt (v := some (.int (i32 (r61)))) rfl rfl rfl rfl rfl rfl ?_
      exact ⟨_, _, _, ln2_3, at1, fk2_4, nd1, sy1, na1, vi, A 3 (ln2_3).toNat, rfl, rfl, hW5, hF10, hP11, by omega, (e7), ((hF6.1 10 rfl).trans (ex_at1)), (e8), ((hF6.1 31 rfl).trans (ex_nd1)), ((hF6.1 19 rfl).trans (ex_sy1)), ((hF6.1 28 rfl).trans (ex_na1)), ((hF6.1 29 rfl).trans (fx_29)), (congrFun ((hF6.2 3 rfl).trans (hFx.2 3 rfl)) _), by omega, by omega, by omega, by omega, by omega, by omega, by omega, by omega, by omega, by omega, by first | exact Or.inl (⟨by omega, by omega⟩) | exact Or.inr ((⟨by omega, by omega, by omega, by omega, by omega, by omega, by omega⟩))⟩
  have at_126p : ∀ (L : jL) (Gx : Nat → Int) (Ax : Nat → Nat → Int) (n at1 tk1 fk1 nd1 op1 sy1 na1 : Int), jGet L 0 = some (.ref 66) → jGet L 1 = some (.int (i32 (lv))) → jGet L 2 = some (.int (i32 n)) → Wk Gx Ax → Fr [9, 10, 11, 12, 13, 14, 15, 16, 17, 18, 19, 28, 29, 31] [6, 7, 8, 9, 10, 11, 12, 14, 15, 16, 17, 18, 19, 20, 21, 22, 23, 24, 28] G A Gx Ax → Pf nd A Ax → Gx 10 = at1 → Gx 11 = tk1 → Gx 16 = fk1 → Gx 31 = nd1 → Gx 15 = op1 → Gx 19 = sy1 → Gx 28 = na1 → Gx 9 = ln → Gx 29 = vi → ((-2147483648 : Int) ≤ n ∧ n ≤ 2147483647) → (1 ≤ fk1) → (at0 ≤ at1) → (at1 ≤ le) → (nd ≤ n ∧ n ≤ 6998 ∧ n < nd1) → (sy ≤ sy1) → (sy1 ≤ na1 + 2) → (0 ≤ op1 ∧ op1 ≤ 9) → (nd1 - nd ≤ 2 * at1 - 2 * at0 + 8) → wj X d jm297 (126, L, [], rV c0 c1 Gx Ax T) (fun o V' => ∃ (G' : Nat → Int) (A' : Nat → Nat → Int) (r : Int) (ln2 : Int) (at2 : Int) (fk2 : Int) (nd2 : Int) (sy2 : Int) (na2 : Int) (vi2 : Int) (lf2 : Int), V' = rV c0 c1 G' A' T ∧ o = .inl (some (.int (i32 r))) ∧ Wk G' A' ∧ Fr [9, 10, 11, 12, 13, 14, 15, 16, 17, 18, 19, 28, 29, 31] [6, 7, 8, 9, 10, 11, 12, 14, 15, 16, 17, 18, 19, 20, 21, 22, 23, 24, 28] G A G' A' ∧ Pf nd A A' ∧ ((-2147483648 : Int) ≤ r ∧ r ≤ 2147483647) ∧ G' 9 = ln2 ∧ G' 10 = at2 ∧ G' 16 = fk2 ∧ G' 31 = nd2 ∧ G' 19 = sy2 ∧ G' 28 = na2 ∧ G' 29 = vi2 ∧ A' 3 (ln2).toNat = lf2 ∧ (at0 ≤ at2) ∧ (nd ≤ nd2) ∧ (sy ≤ sy2) ∧ (sy2 ≤ na2 + 2) ∧ (vi ≤ vi2) ∧ (vi2 ≤ vi + 1) ∧ (0 ≤ r) ∧ (r ≤ 6999) ∧ (ln ≤ ln2) ∧ (ln2 ≤ li) ∧ (((1 ≤ fk2) ∧ (nd2 - nd ≤ 2 * at2 - (2 * at0 - tz tk0) + 14)) ∨ ((fk2 = 0) ∧ (vi2 = vi) ∧ (ln < ln2) ∧ (nd2 - nd ≤ 2 * at2 - (2 * at0 - tz tk0)) ∧ (at2 < lf2 ∨ li ≤ ln2) ∧ (nd ≤ r) ∧ (r < nd2)))) := by
    intro L Gx Ax n at1 tk1 fk1 nd1 op1 sy1 na1 gL_0 gL_1 gL_2 hWx hFx hPx ex_at1 ex_tk1 ex_fk1 ex_nd1 ex_op1 ex_sy1 ex_na1 fx_9 fx_29 rx_n iv_0 iv_1 iv_2 iv_3 iv_4 iv_5 iv_6 iv_7
    have b_at1 : (0 : Int) ≤ at1 ∧ at1 ≤ 3002 := ex_at1 ▸ hWx.1 10
    have z_tk1 := tz_f tk1
    have b_tk1 : (0 : Int) ≤ tk1 ∧ tk1 ≤ 5 := ex_tk1 ▸ hWx.1 11
    have b_fk1 : (0 : Int) ≤ fk1 ∧ fk1 ≤ 6 := ex_fk1 ▸ hWx.1 16
    have b_nd1 : (0 : Int) ≤ nd1 ∧ nd1 ≤ 6999 := ex_nd1 ▸ hWx.1 31
    have b_op1 : (-2147483648 : Int) ≤ op1 ∧ op1 ≤ 2147483647 := ex_op1 ▸ hWx.1 15
    have b_sy1 : (0 : Int) ≤ sy1 ∧ sy1 ≤ 202 := ex_sy1 ▸ hWx.1 19
    have b_na1 : (0 : Int) ≤ na1 ∧ na1 ≤ 200 := ex_na1 ▸ hWx.1 28
    refine jx_ld (pc' := 127) (l' := L) (st' := [.ref 66]) rfl (jl_aloadn gL_0) ?_
    refine jx_vr (pc' := 130) (as := []) (st := []) rfl rfl rfl rfl ⟨rfl, rfl, Nat.le_of_ble_eq_true rfl⟩ rfl rfl (c_endLine (dd := d) (hd := by omega) (hW := hWx)  (ln := ln) (e_ln := show Gx 9 = ln from (fx_9)) (li := li) (e_li := show Gx 3 = li from ((hFx.1 3 rfl).trans (e_li))) (fk := fk1) (e_fk := show Gx 16 = fk1 from (ex_fk1)) (tk0 := tk1) (e_tk0 := show Gx 11 = tk1 from (ex_tk1))    (p_0 := by omega)) (fun o V' hq => ?_)
    obtain ⟨G65, A66, ln2_67, fk2_68, rfl, rfl, hW69, hF70, e71, e72, q73⟩ := hq
    have hF74 := Fr_tr hFx hF70 (Fr_sub (by decide)) (Fr_sub (by decide))
    have hP75 := Pf_f hPx hF70 (by decide)
    have bln2_67 : (0 : Int) ≤ ln2_67 ∧ ln2_67 ≤ 3000 := e71 ▸ hW69.1 9
    have bfk2_68 : (0 : Int) ≤ fk2_68 ∧ fk2_68 ≤ 6 := e72 ▸ hW69.1 16
    refine .inl ⟨rfl, ?_⟩
    rcases q73 with ⟨a76, a77, a78, a79, a80⟩ | ⟨a81, a82⟩
    · have _q : True := trivial
      exfalso
      omega
    · have _q : True := trivial
      refine jx_ld (pc' := 131) (l' := L) (st' := [.ref 66]) rfl (jl_aloadn gL_0) ?_
      refine jx_ld (pc' := 132) (l' := L) (st' := [.int (i32 (n)), .ref 66]) rfl (jl_iloadn gL_2) ?_
      refine jx_ld (pc' := 133) (l' := L) (st' := [.int (i32 (lv)), .int (i32 (n)), .ref 66]) rfl (jl_iloadn gL_1) ?_
      refine jx_vr (pc' := 136) (as := [.int (i32 (n)), .int (i32 (lv))]) (st := []) rfl rfl rfl rfl ⟨rfl, rfl, Nat.le_of_ble_eq_true rfl⟩ rfl rfl (c_readIndexed_f (dd := d) (hd := by omega) (hW := hW69) (n := n) (lv := lv) (fk := fk2_68) (e_fk := show G65 16 = fk2_68 from (e72))  (h_n := ⟨(Int.le_trans (by decide : (-2147483648 : Int) ≤ -2147483648) rx_n.1), (Int.le_trans rx_n.2 (by decide : (2147483647 : Int) ≤ 2147483647))⟩) (h_lv := ⟨(Int.le_trans (by decide : (-2147483648 : Int) ≤ -2147483648) h_lv.1), (Int.le_trans h_lv.2 (by decide : (2147483647 : Int) ≤ 2147483647))⟩)  (p_0 := by omega)) (fun o V' hq => ?_)
      obtain ⟨r83, rfl, rfl, b84, p85, -⟩ := hq
      refine .inr ⟨_, rfl, ?_⟩
      refine jx_rt (v := some (.int (i32 (r83)))) rfl rfl rfl rfl rfl rfl ?_
      exact ⟨_, _, _, ln2_67, at1, fk2_68, nd1, sy1, na1, vi, A 3 (ln2_67).toNat, rfl, rfl, hW69, hF74, hP75, by omega, (e71), ((hF70.1 10 rfl).trans (ex_at1)), (e72), ((hF70.1 31 rfl).trans (ex_nd1)), ((hF70.1 19 rfl).trans (ex_sy1)), ((hF70.1 28 rfl).trans (ex_na1)), ((hF70.1 29 rfl).trans (fx_29)), (congrFun ((hF70.2 3 rfl).trans (hFx.2 3 rfl)) _), by omega, by omega, by omega, by omega, by omega, by omega, by omega, by omega, by omega, by omega, by first | exact Or.inl (⟨by omega, by omega⟩) | exact Or.inr ((⟨by omega, by omega, by omega, by omega, by omega, by omega, by omega⟩))⟩
  have at_116 : ∀ (L : jL) (Gx : Nat → Int) (Ax : Nat → Nat → Int) (n at1 tk1 fk1 nd1 op1 sy1 na1 sa1 : Int), jGet L 0 = some (.ref 66) → jGet L 1 = some (.int (i32 (lv))) → jGet L 2 = some (.int (i32 n)) → Wk Gx Ax → Fr [9, 10, 11, 12, 13, 14, 15, 16, 17, 18, 19, 28, 29, 31] [6, 7, 8, 9, 10, 11, 12, 14, 15, 16, 17, 18, 19, 20, 21, 22, 23, 24, 28] G A Gx Ax → Pf nd A Ax → Gx 10 = at1 → Gx 11 = tk1 → Gx 16 = fk1 → Gx 31 = nd1 → Gx 15 = op1 → Gx 19 = sy1 → Gx 28 = na1 → Ax 17 (n).toNat = sa1 → Gx 9 = ln → Gx 29 = vi → ((-2147483648 : Int) ≤ n ∧ n ≤ 2147483647) → (fk1 = 0) → (at0 ≤ at1) → (at1 ≤ le) → (nd ≤ n ∧ n ≤ 6998 ∧ n < nd1) → (sy ≤ sy1) → (sy1 ≤ na1 + 2) → (op1 = 0) → (0 ≤ sa1 ∧ sa1 ≤ 201) → (vi < sy1) → (nd1 - nd ≤ (2 * at1 - tz tk1) - (2 * at0 - tz tk0)) → wj X d jm297 (116, L, [], rV c0 c1 Gx Ax T) (fun o V' => ∃ (G' : Nat → Int) (A' : Nat → Nat → Int) (r : Int) (ln2 : Int) (at2 : Int) (fk2 : Int) (nd2 : Int) (sy2 : Int) (na2 : Int) (vi2 : Int) (lf2 : Int), V' = rV c0 c1 G' A' T ∧ o = .inl (some (.int (i32 r))) ∧ Wk G' A' ∧ Fr [9, 10, 11, 12, 13, 14, 15, 16, 17, 18, 19, 28, 29, 31] [6, 7, 8, 9, 10, 11, 12, 14, 15, 16, 17, 18, 19, 20, 21, 22, 23, 24, 28] G A G' A' ∧ Pf nd A A' ∧ ((-2147483648 : Int) ≤ r ∧ r ≤ 2147483647) ∧ G' 9 = ln2 ∧ G' 10 = at2 ∧ G' 16 = fk2 ∧ G' 31 = nd2 ∧ G' 19 = sy2 ∧ G' 28 = na2 ∧ G' 29 = vi2 ∧ A' 3 (ln2).toNat = lf2 ∧ (at0 ≤ at2) ∧ (nd ≤ nd2) ∧ (sy ≤ sy2) ∧ (sy2 ≤ na2 + 2) ∧ (vi ≤ vi2) ∧ (vi2 ≤ vi + 1) ∧ (0 ≤ r) ∧ (r ≤ 6999) ∧ (ln ≤ ln2) ∧ (ln2 ≤ li) ∧ (((1 ≤ fk2) ∧ (nd2 - nd ≤ 2 * at2 - (2 * at0 - tz tk0) + 14)) ∨ ((fk2 = 0) ∧ (vi2 = vi) ∧ (ln < ln2) ∧ (nd2 - nd ≤ 2 * at2 - (2 * at0 - tz tk0)) ∧ (at2 < lf2 ∨ li ≤ ln2) ∧ (nd ≤ r) ∧ (r < nd2)))) := by
    intro L Gx Ax n at1 tk1 fk1 nd1 op1 sy1 na1 sa1 gL_0 gL_1 gL_2 hWx hFx hPx ex_at1 ex_tk1 ex_fk1 ex_nd1 ex_op1 ex_sy1 ex_na1 ex_sa1 fx_9 fx_29 rx_n iv_0 iv_1 iv_2 iv_3 iv_4 iv_5 iv_6 iv_7 iv_8 iv_9
    have b_at1 : (0 : Int) ≤ at1 ∧ at1 ≤ 3002 := ex_at1 ▸ hWx.1 10
    have z_tk1 := tz_f tk1
    have b_tk1 : (0 : Int) ≤ tk1 ∧ tk1 ≤ 5 := ex_tk1 ▸ hWx.1 11
    have b_fk1 : (0 : Int) ≤ fk1 ∧ fk1 ≤ 6 := ex_fk1 ▸ hWx.1 16
    have b_nd1 : (0 : Int) ≤ nd1 ∧ nd1 ≤ 6999 := ex_nd1 ▸ hWx.1 31
    have b_op1 : (-2147483648 : Int) ≤ op1 ∧ op1 ≤ 2147483647 := ex_op1 ▸ hWx.1 15
    have b_sy1 : (0 : Int) ≤ sy1 ∧ sy1 ≤ 202 := ex_sy1 ▸ hWx.1 19
    have b_na1 : (0 : Int) ≤ na1 ∧ na1 ≤ 200 := ex_na1 ▸ hWx.1 28
    refine jx_ld (pc' := 117) (l' := L) (st' := [.ref 66]) rfl (jl_aloadn gL_0) ?_
    refine jr_get (pc' := 120) (i := 37) (v := .ref 87) rfl rfl (by decide) rfl rfl ?_
    refine jx_ld (pc' := 121) (l' := L) (st' := [.int (i32 (n)), .ref 87]) rfl (jl_iloadn gL_2) ?_
    refine jx_ld (pc' := 122) (l' := L) (st' := [.ref 66, .int (i32 (n)), .ref 87]) rfl (jl_aloadn gL_0) ?_
    refine jx_vr (pc' := 125) (as := []) (st := [.int (i32 (n)), .ref 87]) rfl rfl rfl rfl ⟨rfl, rfl, Nat.le_of_ble_eq_true rfl⟩ rfl rfl (RE_all X 9 (dd := d) (hd := by omega) (hW := hWx)  (ln := ln) (e_ln := show Gx 9 = ln from (fx_9)) (le := le) (e_le := show Ax 4 (ln).toNat = le from (congrFun (hFx.2 4 rfl) _).trans (e_le)) (at0 := at1) (e_at0 := show Gx 10 = at1 from (ex_at1)) (fk := fk1) (e_fk := show Gx 16 = fk1 from (ex_fk1)) (op0 := op1) (e_op0 := show Gx 15 = op1 from (ex_op1)) (nd := nd1) (e_nd := show Gx 31 = nd1 from (ex_nd1)) (tk0 := tk1) (e_tk0 := show Gx 11 = tk1 from (ex_tk1))    (p_0 := by omega) (p_1 := by omega) (p_2 := by omega) (p_3 := by omega) (p_4 := by omega) (p_5 := by omega)) (fun o V' hq => ?_)
    obtain ⟨G87, A88, r89, at2_90, fk2_91, op2_92, nd2_93, tk2_94, rfl, rfl, hW95, hF96, hQ97, b98, e99, e100, e101, e102, e103, p104, p105, p106, p107, p108, p109, q110⟩ := hq
    have hF111 := Fr_tr hFx hF96 (Fr_sub (by decide)) (Fr_sub (by decide))
    have k112 : A88 17 (n).toNat = sa1 := (hQ97 17 _ rfl (by omega)).trans (show Ax 17 (n).toNat = sa1 from (ex_sa1))
    have hP113 := Pf_tr hPx hQ97 (by omega)
    have bat2_90 : (0 : Int) ≤ at2_90 ∧ at2_90 ≤ 3002 := e99 ▸ hW95.1 10
    have bfk2_91 : (0 : Int) ≤ fk2_91 ∧ fk2_91 ≤ 6 := e100 ▸ hW95.1 16
    have bop2_92 : (-2147483648 : Int) ≤ op2_92 ∧ op2_92 ≤ 2147483647 := e101 ▸ hW95.1 15
    have bnd2_93 : (0 : Int) ≤ nd2_93 ∧ nd2_93 ≤ 6999 := e102 ▸ hW95.1 31
    have ztk2_94 := tz_b tk2_94
    have btk2_94 : (0 : Int) ≤ tk2_94 ∧ tk2_94 ≤ 5 := e103 ▸ hW95.1 11
    refine .inr ⟨_, rfl, ?_⟩
    rcases q110 with ⟨a114, a115, a116, a117, a118, a119⟩ | ⟨a120, a121, a122⟩ | ⟨a123, a124, a125⟩
    · have _q : True := trivial
      exfalso
      omega
    · have _q : True := trivial
      refine jr_st (pc' := 126) (i := 20) (m := 7000) (z := n) (y := r89) rfl (by decide) rfl (by decide) (by omega) (by omega) rfl ?_
      have hW127 : Wk G87 (uA A88 20 (n).toNat (r89)) := Wk_a hW95 (show (-2147483648 : Int) ≤ r89 by omega) (show r89 ≤ (2147483647 : Int) by omega)
      have hF128 := Fr_a (z := r89) (k := 20) (n := (n).toNat) hF111 (by decide)
      obtain ⟨A126, eA126⟩ : ∃ q, q = uA A88 20 (n).toNat (r89) := ⟨_, rfl⟩
      rw [← eA126]
      rw [← eA126] at hW127 hF128
      have q129 : A126 20 (n).toNat = r89 := by rw [eA126]; exact uA_eq
      have hP130 : Pf nd A A126 := eA126 ▸ Pf_a hP113 (z := n) (by omega) (by omega)
      have z131 := tz_f (tk2_94)
      exact at_126p L G87 A126 (n) (at2_90) (tk2_94) (fk2_91) (nd2_93) (op2_92) (sy1) (na1) gL_0 gL_1 gL_2 hW127 hF128 hP130 ((e99)) ((e103)) ((e100)) ((e102)) ((e101)) (((hF96.1 19 rfl).trans (ex_sy1))) (((hF96.1 28 rfl).trans (ex_na1))) (((hF96.1 9 rfl).trans (fx_9))) (((hF96.1 29 rfl).trans (fx_29))) (by omega) (by omega) (by omega) (by omega) (by omega) (by omega) (by omega) (by omega) (by omega)
    · have _q : True := trivial
      refine jr_st (pc' := 126) (i := 20) (m := 7000) (z := n) (y := r89) rfl (by decide) rfl (by decide) (by omega) (by omega) rfl ?_
      have hW133 : Wk G87 (uA A88 20 (n).toNat (r89)) := Wk_a hW95 (show (-2147483648 : Int) ≤ r89 by omega) (show r89 ≤ (2147483647 : Int) by omega)
      have hF134 := Fr_a (z := r89) (k := 20) (n := (n).toNat) hF111 (by decide)
      obtain ⟨A132, eA132⟩ : ∃ q, q = uA A88 20 (n).toNat (r89) := ⟨_, rfl⟩
      rw [← eA132]
      rw [← eA132] at hW133 hF134
      have q135 : A132 20 (n).toNat = r89 := by rw [eA132]; exact uA_eq
      have hP136 : Pf nd A A132 := eA132 ▸ Pf_a hP113 (z := n) (by omega) (by omega)
      have z137 := tz_f (tk2_94)
      exact at_126 L G87 A132 (n) (at2_90) (tk2_94) (fk2_91) (nd2_93) (op2_92) (sy1) (na1) (sa1) gL_0 gL_1 gL_2 hW133 hF134 hP136 ((e99)) ((e103)) ((e100)) ((e102)) ((e101)) (((hF96.1 19 rfl).trans (ex_sy1))) (((hF96.1 28 rfl).trans (ex_na1))) ((congrFun ((congrFun eA132 17).trans (uA_ne (by decide))) _).trans (k112)) (((hF96.1 9 rfl).trans (fx_9))) (((hF96.1 29 rfl).trans (fx_29))) (by omega) (by omega) (by omega) (by omega) (by omega) (by omega) (by omega) (by omega) (by omega) (by omega) (by omega)
  have at_116p : ∀ (L : jL) (Gx : Nat → Int) (Ax : Nat → Nat → Int) (n at1 tk1 fk1 nd1 op1 sy1 na1 : Int), jGet L 0 = some (.ref 66) → jGet L 1 = some (.int (i32 (lv))) → jGet L 2 = some (.int (i32 n)) → Wk Gx Ax → Fr [9, 10, 11, 12, 13, 14, 15, 16, 17, 18, 19, 28, 29, 31] [6, 7, 8, 9, 10, 11, 12, 14, 15, 16, 17, 18, 19, 20, 21, 22, 23, 24, 28] G A Gx Ax → Pf nd A Ax → Gx 10 = at1 → Gx 11 = tk1 → Gx 16 = fk1 → Gx 31 = nd1 → Gx 15 = op1 → Gx 19 = sy1 → Gx 28 = na1 → Gx 9 = ln → Gx 29 = vi → ((-2147483648 : Int) ≤ n ∧ n ≤ 2147483647) → (1 ≤ fk1) → (at0 ≤ at1) → (at1 ≤ le) → (nd ≤ n ∧ n ≤ 6998 ∧ n < nd1) → (sy ≤ sy1) → (sy1 ≤ na1 + 2) → (0 ≤ op1 ∧ op1 ≤ 9) → (nd1 - nd ≤ 2 * at1 - 2 * at0 + 8) → wj X d jm297 (116, L, [], rV c0 c1 Gx Ax T) (fun o V' => ∃ (G' : Nat → Int) (A' : Nat → Nat → Int) (r : Int) (ln2 : Int) (at2 : Int) (fk2 : Int) (nd2 : Int) (sy2 : Int) (na2 : Int) (vi2 : Int) (lf2 : Int), V' = rV c0 c1 G' A' T ∧ o = .inl (some (.int (i32 r))) ∧ Wk G' A' ∧ Fr [9, 10, 11, 12, 13, 14, 15, 16, 17, 18, 19, 28, 29, 31] [6, 7, 8, 9, 10, 11, 12, 14, 15, 16, 17, 18, 19, 20, 21, 22, 23, 24, 28] G A G' A' ∧ Pf nd A A' ∧ ((-2147483648 : Int) ≤ r ∧ r ≤ 2147483647) ∧ G' 9 = ln2 ∧ G' 10 = at2 ∧ G' 16 = fk2 ∧ G' 31 = nd2 ∧ G' 19 = sy2 ∧ G' 28 = na2 ∧ G' 29 = vi2 ∧ A' 3 (ln2).toNat = lf2 ∧ (at0 ≤ at2) ∧ (nd ≤ nd2) ∧ (sy ≤ sy2) ∧ (sy2 ≤ na2 + 2) ∧ (vi ≤ vi2) ∧ (vi2 ≤ vi + 1) ∧ (0 ≤ r) ∧ (r ≤ 6999) ∧ (ln ≤ ln2) ∧ (ln2 ≤ li) ∧ (((1 ≤ fk2) ∧ (nd2 - nd ≤ 2 * at2 - (2 * at0 - tz tk0) + 14)) ∨ ((fk2 = 0) ∧ (vi2 = vi) ∧ (ln < ln2) ∧ (nd2 - nd ≤ 2 * at2 - (2 * at0 - tz tk0)) ∧ (at2 < lf2 ∨ li ≤ ln2) ∧ (nd ≤ r) ∧ (r < nd2)))) := by
    intro L Gx Ax n at1 tk1 fk1 nd1 op1 sy1 na1 gL_0 gL_1 gL_2 hWx hFx hPx ex_at1 ex_tk1 ex_fk1 ex_nd1 ex_op1 ex_sy1 ex_na1 fx_9 fx_29 rx_n iv_0 iv_1 iv_2 iv_3 iv_4 iv_5 iv_6 iv_7
    have b_at1 : (0 : Int) ≤ at1 ∧ at1 ≤ 3002 := ex_at1 ▸ hWx.1 10
    have z_tk1 := tz_f tk1
    have b_tk1 : (0 : Int) ≤ tk1 ∧ tk1 ≤ 5 := ex_tk1 ▸ hWx.1 11
    have b_fk1 : (0 : Int) ≤ fk1 ∧ fk1 ≤ 6 := ex_fk1 ▸ hWx.1 16
    have b_nd1 : (0 : Int) ≤ nd1 ∧ nd1 ≤ 6999 := ex_nd1 ▸ hWx.1 31
    have b_op1 : (-2147483648 : Int) ≤ op1 ∧ op1 ≤ 2147483647 := ex_op1 ▸ hWx.1 15
    have b_sy1 : (0 : Int) ≤ sy1 ∧ sy1 ≤ 202 := ex_sy1 ▸ hWx.1 19
    have b_na1 : (0 : Int) ≤ na1 ∧ na1 ≤ 200 := ex_na1 ▸ hWx.1 28
    refine jx_ld (pc' := 117) (l' := L) (st' := [.ref 66]) rfl (jl_aloadn gL_0) ?_
    refine jr_get (pc' := 120) (i := 37) (v := .ref 87) rfl rfl (by decide) rfl rfl ?_
    refine jx_ld (pc' := 121) (l' := L) (st' := [.int (i32 (n)), .ref 87]) rfl (jl_iloadn gL_2) ?_
    refine jx_ld (pc' := 122) (l' := L) (st' := [.ref 66, .int (i32 (n)), .ref 87]) rfl (jl_aloadn gL_0) ?_
    refine jx_vr (pc' := 125) (as := []) (st := [.int (i32 (n)), .ref 87]) rfl rfl rfl rfl ⟨rfl, rfl, Nat.le_of_ble_eq_true rfl⟩ rfl rfl (RE_all X 9 (dd := d) (hd := by omega) (hW := hWx)  (ln := ln) (e_ln := show Gx 9 = ln from (fx_9)) (le := le) (e_le := show Ax 4 (ln).toNat = le from (congrFun (hFx.2 4 rfl) _).trans (e_le)) (at0 := at1) (e_at0 := show Gx 10 = at1 from (ex_at1)) (fk := fk1) (e_fk := show Gx 16 = fk1 from (ex_fk1)) (op0 := op1) (e_op0 := show Gx 15 = op1 from (ex_op1)) (nd := nd1) (e_nd := show Gx 31 = nd1 from (ex_nd1)) (tk0 := tk1) (e_tk0 := show Gx 11 = tk1 from (ex_tk1))    (p_0 := by omega) (p_1 := by omega) (p_2 := by omega) (p_3 := by omega) (p_4 := by omega) (p_5 := by omega)) (fun o V' hq => ?_)
    obtain ⟨G138, A139, r140, at2_141, fk2_142, op2_143, nd2_144, tk2_145, rfl, rfl, hW146, hF147, hQ148, b149, e150, e151, e152, e153, e154, p155, p156, p157, p158, p159, p160, q161⟩ := hq
    have hF162 := Fr_tr hFx hF147 (Fr_sub (by decide)) (Fr_sub (by decide))
    have hP163 := Pf_tr hPx hQ148 (by omega)
    have bat2_141 : (0 : Int) ≤ at2_141 ∧ at2_141 ≤ 3002 := e150 ▸ hW146.1 10
    have bfk2_142 : (0 : Int) ≤ fk2_142 ∧ fk2_142 ≤ 6 := e151 ▸ hW146.1 16
    have bop2_143 : (-2147483648 : Int) ≤ op2_143 ∧ op2_143 ≤ 2147483647 := e152 ▸ hW146.1 15
    have bnd2_144 : (0 : Int) ≤ nd2_144 ∧ nd2_144 ≤ 6999 := e153 ▸ hW146.1 31
    have ztk2_145 := tz_b tk2_145
    have btk2_145 : (0 : Int) ≤ tk2_145 ∧ tk2_145 ≤ 5 := e154 ▸ hW146.1 11
    refine .inr ⟨_, rfl, ?_⟩
    rcases q161 with ⟨a164, a165, a166, a167, a168, a169⟩ | ⟨a170, a171, a172⟩ | ⟨a173, a174, a175⟩
    · have _q : True := trivial
      refine jr_st (pc' := 126) (i := 20) (m := 7000) (z := n) (y := r140) rfl (by decide) rfl (by decide) (by omega) (by omega) rfl ?_
      have hW177 : Wk G138 (uA A139 20 (n).toNat (r140)) := Wk_a hW146 (show (-2147483648 : Int) ≤ r140 by omega) (show r140 ≤ (2147483647 : Int) by omega)
      have hF178 := Fr_a (z := r140) (k := 20) (n := (n).toNat) hF162 (by decide)
      obtain ⟨A176, eA176⟩ : ∃ q, q = uA A139 20 (n).toNat (r140) := ⟨_, rfl⟩
      rw [← eA176]
      rw [← eA176] at hW177 hF178
      have q179 : A176 20 (n).toNat = r140 := by rw [eA176]; exact uA_eq
      have hP180 : Pf nd A A176 := eA176 ▸ Pf_a hP163 (z := n) (by omega) (by omega)
      have z181 := tz_f (tk2_145)
      exact at_126p L G138 A176 (n) (at2_141) (tk2_145) (fk2_142) (nd2_144) (op2_143) (sy1) (na1) gL_0 gL_1 gL_2 hW177 hF178 hP180 ((e150)) ((e154)) ((e151)) ((e153)) ((e152)) (((hF147.1 19 rfl).trans (ex_sy1))) (((hF147.1 28 rfl).trans (ex_na1))) (((hF147.1 9 rfl).trans (fx_9))) (((hF147.1 29 rfl).trans (fx_29))) (by omega) (by omega) (by omega) (by omega) (by omega) (by omega) (by omega) (by omega) (by omega)
    · have _q : True := trivial
      exfalso
      omega
    · have _q : True := trivial
      exfalso
      omega
  have at_106 : ∀ (L : jL) (Gx : Nat → Int) (Ax : Nat → Nat → Int) (n at1 tk1 fk1 nd1 op1 sy1 na1 sa1 : Int), jGet L 0 = some (.ref 66) → jGet L 1 = some (.int (i32 (lv))) → jGet L 2 = some (.int (i32 n)) → Wk Gx Ax → Fr [9, 10, 11, 12, 13, 14, 15, 16, 17, 18, 19, 28, 29, 31] [6, 7, 8, 9, 10, 11, 12, 14, 15, 16, 17, 18, 19, 20, 21, 22, 23, 24, 28] G A Gx Ax → Pf nd A Ax → Gx 10 = at1 → Gx 11 = tk1 → Gx 16 = fk1 → Gx 31 = nd1 → Gx 15 = op1 → Gx 19 = sy1 → Gx 28 = na1 → Ax 17 (n).toNat = sa1 → Gx 9 = ln → Gx 29 = vi → ((-2147483648 : Int) ≤ n ∧ n ≤ 2147483647) → (fk1 = 0) → (at0 ≤ at1) → (at1 ≤ le) → (nd ≤ n ∧ n ≤ 6998 ∧ n < nd1) → (sy ≤ sy1) → (sy1 ≤ na1 + 2) → (op1 = 0) → (0 ≤ sa1 ∧ sa1 ≤ 201) → (vi < sy1) → (nd1 - nd ≤ (2 * at1 - tz tk1) - (2 * at0 - tz tk0)) → wj X d jm297 (106, L, [], rV c0 c1 Gx Ax T) (fun o V' => ∃ (G' : Nat → Int) (A' : Nat → Nat → Int) (r : Int) (ln2 : Int) (at2 : Int) (fk2 : Int) (nd2 : Int) (sy2 : Int) (na2 : Int) (vi2 : Int) (lf2 : Int), V' = rV c0 c1 G' A' T ∧ o = .inl (some (.int (i32 r))) ∧ Wk G' A' ∧ Fr [9, 10, 11, 12, 13, 14, 15, 16, 17, 18, 19, 28, 29, 31] [6, 7, 8, 9, 10, 11, 12, 14, 15, 16, 17, 18, 19, 20, 21, 22, 23, 24, 28] G A G' A' ∧ Pf nd A A' ∧ ((-2147483648 : Int) ≤ r ∧ r ≤ 2147483647) ∧ G' 9 = ln2 ∧ G' 10 = at2 ∧ G' 16 = fk2 ∧ G' 31 = nd2 ∧ G' 19 = sy2 ∧ G' 28 = na2 ∧ G' 29 = vi2 ∧ A' 3 (ln2).toNat = lf2 ∧ (at0 ≤ at2) ∧ (nd ≤ nd2) ∧ (sy ≤ sy2) ∧ (sy2 ≤ na2 + 2) ∧ (vi ≤ vi2) ∧ (vi2 ≤ vi + 1) ∧ (0 ≤ r) ∧ (r ≤ 6999) ∧ (ln ≤ ln2) ∧ (ln2 ≤ li) ∧ (((1 ≤ fk2) ∧ (nd2 - nd ≤ 2 * at2 - (2 * at0 - tz tk0) + 14)) ∨ ((fk2 = 0) ∧ (vi2 = vi) ∧ (ln < ln2) ∧ (nd2 - nd ≤ 2 * at2 - (2 * at0 - tz tk0)) ∧ (at2 < lf2 ∨ li ≤ ln2) ∧ (nd ≤ r) ∧ (r < nd2)))) := by
    intro L Gx Ax n at1 tk1 fk1 nd1 op1 sy1 na1 sa1 gL_0 gL_1 gL_2 hWx hFx hPx ex_at1 ex_tk1 ex_fk1 ex_nd1 ex_op1 ex_sy1 ex_na1 ex_sa1 fx_9 fx_29 rx_n iv_0 iv_1 iv_2 iv_3 iv_4 iv_5 iv_6 iv_7 iv_8 iv_9
    have b_at1 : (0 : Int) ≤ at1 ∧ at1 ≤ 3002 := ex_at1 ▸ hWx.1 10
    have z_tk1 := tz_f tk1
    have b_tk1 : (0 : Int) ≤ tk1 ∧ tk1 ≤ 5 := ex_tk1 ▸ hWx.1 11
    have b_fk1 : (0 : Int) ≤ fk1 ∧ fk1 ≤ 6 := ex_fk1 ▸ hWx.1 16
    have b_nd1 : (0 : Int) ≤ nd1 ∧ nd1 ≤ 6999 := ex_nd1 ▸ hWx.1 31
    have b_op1 : (-2147483648 : Int) ≤ op1 ∧ op1 ≤ 2147483647 := ex_op1 ▸ hWx.1 15
    have b_sy1 : (0 : Int) ≤ sy1 ∧ sy1 ≤ 202 := ex_sy1 ▸ hWx.1 19
    have b_na1 : (0 : Int) ≤ na1 ∧ na1 ≤ 200 := ex_na1 ▸ hWx.1 28
    refine jx_ld (pc' := 107) (l' := L) (st' := [.ref 66]) rfl (jl_aloadn gL_0) ?_
    refine jx_ld (pc' := 108) (l' := L) (st' := [.ref 66, .ref 66]) rfl (jl_aloadn gL_0) ?_
    refine jx_ar (pc' := 110) (st' := [.int (i32 (13)), .ref 66, .ref 66]) rfl rfl rfl rfl ?_
    have b182 : (-2147483648 : Int) ≤ Gx 13 ∧ Gx 13 ≤ 2147483647 := hWx.1 13
    refine jx_vr (pc' := 113) (as := [.int (i32 (13))]) (st := [.ref 66]) rfl rfl rfl rfl ⟨rfl, rfl, Nat.le_of_ble_eq_true rfl⟩ rfl rfl (c_isKey (dd := d) (hd := by omega) (hW := hWx) (k := 13) (tk := tk1) (e_tk := show Gx 11 = tk1 from (ex_tk1)) (tn := Gx 13) (e_tn := show Gx 13 = Gx 13 from rfl)  (h_k := ⟨(by decide), (by decide)⟩)  ) (fun o V' hq => ?_)
    obtain ⟨r183, rfl, rfl, b184, q185⟩ := hq
    refine .inr ⟨_, rfl, ?_⟩
    rcases q185 with ⟨rfl, a186, a187, a188⟩ | rfl
    · have _q : True := trivial
      refine jx_vr (pc' := 116) (as := [.int (i32 (1))]) (st := []) rfl rfl rfl rfl ⟨rfl, rfl, Nat.le_of_ble_eq_true rfl⟩ rfl rfl (c_need (dd := d) (hd := by omega) (hW := hWx) (g := 1) (ln := ln) (e_ln := show Gx 9 = ln from (fx_9)) (le := le) (e_le := show Ax 4 (ln).toNat = le from (congrFun (hFx.2 4 rfl) _).trans (e_le)) (at0 := at1) (e_at0 := show Gx 10 = at1 from (ex_at1)) (fk := fk1) (e_fk := show Gx 16 = fk1 from (ex_fk1)) (tk0 := tk1) (e_tk0 := show Gx 11 = tk1 from (ex_tk1))  (h_g := ⟨(by decide), (by decide)⟩)  (p_0 := by omega)) (fun o V' hq => ?_)
      obtain ⟨G189, A190, at2_191, tk2_192, fk2_193, rfl, rfl, hW194, hF195, e196, e197, e198, p199, p200, q201⟩ := hq
      have hF202 := Fr_tr hFx hF195 (Fr_sub (by decide)) (Fr_sub (by decide))
      have hP203 := Pf_f hPx hF195 (by decide)
      have bat2_191 : (0 : Int) ≤ at2_191 ∧ at2_191 ≤ 3002 := e196 ▸ hW194.1 10
      have ztk2_192 := tz_b tk2_192
      have btk2_192 : (0 : Int) ≤ tk2_192 ∧ tk2_192 ≤ 5 := e197 ▸ hW194.1 11
      have bfk2_193 : (0 : Int) ≤ fk2_193 ∧ fk2_193 ≤ 6 := e198 ▸ hW194.1 16
      refine .inl ⟨rfl, ?_⟩
      rcases q201 with ⟨a204, a205, a206, a207⟩ | ⟨a208, a209, a210, a211⟩
      · have _q : True := trivial
        have z212 := tz_f (tk2_192)
        exact at_116p L G189 A190 (n) (at2_191) (tk2_192) (fk2_193) (nd1) (op1) (sy1) (na1) gL_0 gL_1 gL_2 hW194 hF202 hP203 ((e196)) ((e197)) ((e198)) (((hF195.1 31 rfl).trans (ex_nd1))) (((hF195.1 15 rfl).trans (ex_op1))) (((hF195.1 19 rfl).trans (ex_sy1))) (((hF195.1 28 rfl).trans (ex_na1))) (((hF195.1 9 rfl).trans (fx_9))) (((hF195.1 29 rfl).trans (fx_29))) (by omega) (by omega) (by omega) (by omega) (by omega) (by omega) (by omega) (by omega) (by omega)
      · have _q : True := trivial
        have z213 := tz_f (tk2_192)
        exact at_116 L G189 A190 (n) (at2_191) (tk2_192) (fk2_193) (nd1) (op1) (sy1) (na1) (sa1) gL_0 gL_1 gL_2 hW194 hF202 hP203 ((e196)) ((e197)) ((e198)) (((hF195.1 31 rfl).trans (ex_nd1))) (((hF195.1 15 rfl).trans (ex_op1))) (((hF195.1 19 rfl).trans (ex_sy1))) (((hF195.1 28 rfl).trans (ex_na1))) ((congrFun (hF195.2 17 rfl) _).trans (ex_sa1)) (((hF195.1 9 rfl).trans (fx_9))) (((hF195.1 29 rfl).trans (fx_29))) (by omega) (by omega) (by omega) (by omega) (by omega) (by omega) (by omega) (by omega) (by omega) (by omega) (by omega)
    · have _q : True := trivial
      refine jx_vr (pc' := 116) (as := [.int (i32 (0))]) (st := []) rfl rfl rfl rfl ⟨rfl, rfl, Nat.le_of_ble_eq_true rfl⟩ rfl rfl (c_need (dd := d) (hd := by omega) (hW := hWx) (g := 0) (ln := ln) (e_ln := show Gx 9 = ln from (fx_9)) (le := le) (e_le := show Ax 4 (ln).toNat = le from (congrFun (hFx.2 4 rfl) _).trans (e_le)) (at0 := at1) (e_at0 := show Gx 10 = at1 from (ex_at1)) (fk := fk1) (e_fk := show Gx 16 = fk1 from (ex_fk1)) (tk0 := tk1) (e_tk0 := show Gx 11 = tk1 from (ex_tk1))  (h_g := ⟨(by decide), (by decide)⟩)  (p_0 := by omega)) (fun o V' hq => ?_)
      obtain ⟨G214, A215, at2_216, tk2_217, fk2_218, rfl, rfl, hW219, hF220, e221, e222, e223, p224, p225, q226⟩ := hq
      have hF227 := Fr_tr hFx hF220 (Fr_sub (by decide)) (Fr_sub (by decide))
      have hP228 := Pf_f hPx hF220 (by decide)
      have bat2_216 : (0 : Int) ≤ at2_216 ∧ at2_216 ≤ 3002 := e221 ▸ hW219.1 10
      have ztk2_217 := tz_b tk2_217
      have btk2_217 : (0 : Int) ≤ tk2_217 ∧ tk2_217 ≤ 5 := e222 ▸ hW219.1 11
      have bfk2_218 : (0 : Int) ≤ fk2_218 ∧ fk2_218 ≤ 6 := e223 ▸ hW219.1 16
      refine .inl ⟨rfl, ?_⟩
      rcases q226 with ⟨a229, a230, a231, a232⟩ | ⟨a233, a234, a235, a236⟩
      · have _q : True := trivial
        have z237 := tz_f (tk2_217)
        exact at_116p L G214 A215 (n) (at2_216) (tk2_217) (fk2_218) (nd1) (op1) (sy1) (na1) gL_0 gL_1 gL_2 hW219 hF227 hP228 ((e221)) ((e222)) ((e223)) (((hF220.1 31 rfl).trans (ex_nd1))) (((hF220.1 15 rfl).trans (ex_op1))) (((hF220.1 19 rfl).trans (ex_sy1))) (((hF220.1 28 rfl).trans (ex_na1))) (((hF220.1 9 rfl).trans (fx_9))) (((hF220.1 29 rfl).trans (fx_29))) (by omega) (by omega) (by omega) (by omega) (by omega) (by omega) (by omega) (by omega) (by omega)
      · have _q : True := trivial
        exfalso
        omega
  have at_106p : ∀ (L : jL) (Gx : Nat → Int) (Ax : Nat → Nat → Int) (n at1 tk1 fk1 nd1 op1 sy1 na1 : Int), jGet L 0 = some (.ref 66) → jGet L 1 = some (.int (i32 (lv))) → jGet L 2 = some (.int (i32 n)) → Wk Gx Ax → Fr [9, 10, 11, 12, 13, 14, 15, 16, 17, 18, 19, 28, 29, 31] [6, 7, 8, 9, 10, 11, 12, 14, 15, 16, 17, 18, 19, 20, 21, 22, 23, 24, 28] G A Gx Ax → Pf nd A Ax → Gx 10 = at1 → Gx 11 = tk1 → Gx 16 = fk1 → Gx 31 = nd1 → Gx 15 = op1 → Gx 19 = sy1 → Gx 28 = na1 → Gx 9 = ln → Gx 29 = vi → ((-2147483648 : Int) ≤ n ∧ n ≤ 2147483647) → (1 ≤ fk1) → (at0 ≤ at1) → (at1 ≤ le) → (nd ≤ n ∧ n ≤ 6998 ∧ n < nd1) → (sy ≤ sy1) → (sy1 ≤ na1 + 2) → (0 ≤ op1 ∧ op1 ≤ 9) → (nd1 - nd ≤ 2 * at1 - 2 * at0 + 8) → wj X d jm297 (106, L, [], rV c0 c1 Gx Ax T) (fun o V' => ∃ (G' : Nat → Int) (A' : Nat → Nat → Int) (r : Int) (ln2 : Int) (at2 : Int) (fk2 : Int) (nd2 : Int) (sy2 : Int) (na2 : Int) (vi2 : Int) (lf2 : Int), V' = rV c0 c1 G' A' T ∧ o = .inl (some (.int (i32 r))) ∧ Wk G' A' ∧ Fr [9, 10, 11, 12, 13, 14, 15, 16, 17, 18, 19, 28, 29, 31] [6, 7, 8, 9, 10, 11, 12, 14, 15, 16, 17, 18, 19, 20, 21, 22, 23, 24, 28] G A G' A' ∧ Pf nd A A' ∧ ((-2147483648 : Int) ≤ r ∧ r ≤ 2147483647) ∧ G' 9 = ln2 ∧ G' 10 = at2 ∧ G' 16 = fk2 ∧ G' 31 = nd2 ∧ G' 19 = sy2 ∧ G' 28 = na2 ∧ G' 29 = vi2 ∧ A' 3 (ln2).toNat = lf2 ∧ (at0 ≤ at2) ∧ (nd ≤ nd2) ∧ (sy ≤ sy2) ∧ (sy2 ≤ na2 + 2) ∧ (vi ≤ vi2) ∧ (vi2 ≤ vi + 1) ∧ (0 ≤ r) ∧ (r ≤ 6999) ∧ (ln ≤ ln2) ∧ (ln2 ≤ li) ∧ (((1 ≤ fk2) ∧ (nd2 - nd ≤ 2 * at2 - (2 * at0 - tz tk0) + 14)) ∨ ((fk2 = 0) ∧ (vi2 = vi) ∧ (ln < ln2) ∧ (nd2 - nd ≤ 2 * at2 - (2 * at0 - tz tk0)) ∧ (at2 < lf2 ∨ li ≤ ln2) ∧ (nd ≤ r) ∧ (r < nd2)))) := by
    intro L Gx Ax n at1 tk1 fk1 nd1 op1 sy1 na1 gL_0 gL_1 gL_2 hWx hFx hPx ex_at1 ex_tk1 ex_fk1 ex_nd1 ex_op1 ex_sy1 ex_na1 fx_9 fx_29 rx_n iv_0 iv_1 iv_2 iv_3 iv_4 iv_5 iv_6 iv_7
    have b_at1 : (0 : Int) ≤ at1 ∧ at1 ≤ 3002 := ex_at1 ▸ hWx.1 10
    have z_tk1 := tz_f tk1
    have b_tk1 : (0 : Int) ≤ tk1 ∧ tk1 ≤ 5 := ex_tk1 ▸ hWx.1 11
    have b_fk1 : (0 : Int) ≤ fk1 ∧ fk1 ≤ 6 := ex_fk1 ▸ hWx.1 16
    have b_nd1 : (0 : Int) ≤ nd1 ∧ nd1 ≤ 6999 := ex_nd1 ▸ hWx.1 31
    have b_op1 : (-2147483648 : Int) ≤ op1 ∧ op1 ≤ 2147483647 := ex_op1 ▸ hWx.1 15
    have b_sy1 : (0 : Int) ≤ sy1 ∧ sy1 ≤ 202 := ex_sy1 ▸ hWx.1 19
    have b_na1 : (0 : Int) ≤ na1 ∧ na1 ≤ 200 := ex_na1 ▸ hWx.1 28
    refine jx_ld (pc' := 107) (l' := L) (st' := [.ref 66]) rfl (jl_aloadn gL_0) ?_
    refine jx_ld (pc' := 108) (l' := L) (st' := [.ref 66, .ref 66]) rfl (jl_aloadn gL_0) ?_
    refine jx_ar (pc' := 110) (st' := [.int (i32 (13)), .ref 66, .ref 66]) rfl rfl rfl rfl ?_
    have b238 : (-2147483648 : Int) ≤ Gx 13 ∧ Gx 13 ≤ 2147483647 := hWx.1 13
    refine jx_vr (pc' := 113) (as := [.int (i32 (13))]) (st := [.ref 66]) rfl rfl rfl rfl ⟨rfl, rfl, Nat.le_of_ble_eq_true rfl⟩ rfl rfl (c_isKey (dd := d) (hd := by omega) (hW := hWx) (k := 13) (tk := tk1) (e_tk := show Gx 11 = tk1 from (ex_tk1)) (tn := Gx 13) (e_tn := show Gx 13 = Gx 13 from rfl)  (h_k := ⟨(by decide), (by decide)⟩)  ) (fun o V' hq => ?_)
    obtain ⟨r239, rfl, rfl, b240, q241⟩ := hq
    refine .inr ⟨_, rfl, ?_⟩
    rcases q241 with ⟨rfl, a242, a243, a244⟩ | rfl
    · have _q : True := trivial
      refine jx_vr (pc' := 116) (as := [.int (i32 (1))]) (st := []) rfl rfl rfl rfl ⟨rfl, rfl, Nat.le_of_ble_eq_true rfl⟩ rfl rfl (c_need (dd := d) (hd := by omega) (hW := hWx) (g := 1) (ln := ln) (e_ln := show Gx 9 = ln from (fx_9)) (le := le) (e_le := show Ax 4 (ln).toNat = le from (congrFun (hFx.2 4 rfl) _).trans (e_le)) (at0 := at1) (e_at0 := show Gx 10 = at1 from (ex_at1)) (fk := fk1) (e_fk := show Gx 16 = fk1 from (ex_fk1)) (tk0 := tk1) (e_tk0 := show Gx 11 = tk1 from (ex_tk1))  (h_g := ⟨(by decide), (by decide)⟩)  (p_0 := by omega)) (fun o V' hq => ?_)
      obtain ⟨G245, A246, at2_247, tk2_248, fk2_249, rfl, rfl, hW250, hF251, e252, e253, e254, p255, p256, q257⟩ := hq
      have hF258 := Fr_tr hFx hF251 (Fr_sub (by decide)) (Fr_sub (by decide))
      have hP259 := Pf_f hPx hF251 (by decide)
      have bat2_247 : (0 : Int) ≤ at2_247 ∧ at2_247 ≤ 3002 := e252 ▸ hW250.1 10
      have ztk2_248 := tz_b tk2_248
      have btk2_248 : (0 : Int) ≤ tk2_248 ∧ tk2_248 ≤ 5 := e253 ▸ hW250.1 11
      have bfk2_249 : (0 : Int) ≤ fk2_249 ∧ fk2_249 ≤ 6 := e254 ▸ hW250.1 16
      refine .inl ⟨rfl, ?_⟩
      rcases q257 with ⟨a260, a261, a262, a263⟩ | ⟨a264, a265, a266, a267⟩
      · have _q : True := trivial
        have z268 := tz_f (tk2_248)
        exact at_116p L G245 A246 (n) (at2_247) (tk2_248) (fk2_249) (nd1) (op1) (sy1) (na1) gL_0 gL_1 gL_2 hW250 hF258 hP259 ((e252)) ((e253)) ((e254)) (((hF251.1 31 rfl).trans (ex_nd1))) (((hF251.1 15 rfl).trans (ex_op1))) (((hF251.1 19 rfl).trans (ex_sy1))) (((hF251.1 28 rfl).trans (ex_na1))) (((hF251.1 9 rfl).trans (fx_9))) (((hF251.1 29 rfl).trans (fx_29))) (by omega) (by omega) (by omega) (by omega) (by omega) (by omega) (by omega) (by omega) (by omega)
      · have _q : True := trivial
        exfalso
        omega
    · have _q : True := trivial
      refine jx_vr (pc' := 116) (as := [.int (i32 (0))]) (st := []) rfl rfl rfl rfl ⟨rfl, rfl, Nat.le_of_ble_eq_true rfl⟩ rfl rfl (c_need (dd := d) (hd := by omega) (hW := hWx) (g := 0) (ln := ln) (e_ln := show Gx 9 = ln from (fx_9)) (le := le) (e_le := show Ax 4 (ln).toNat = le from (congrFun (hFx.2 4 rfl) _).trans (e_le)) (at0 := at1) (e_at0 := show Gx 10 = at1 from (ex_at1)) (fk := fk1) (e_fk := show Gx 16 = fk1 from (ex_fk1)) (tk0 := tk1) (e_tk0 := show Gx 11 = tk1 from (ex_tk1))  (h_g := ⟨(by decide), (by decide)⟩)  (p_0 := by omega)) (fun o V' hq => ?_)
      obtain ⟨G269, A270, at2_271, tk2_272, fk2_273, rfl, rfl, hW274, hF275, e276, e277, e278, p279, p280, q281⟩ := hq
      have hF282 := Fr_tr hFx hF275 (Fr_sub (by decide)) (Fr_sub (by decide))
      have hP283 := Pf_f hPx hF275 (by decide)
      have bat2_271 : (0 : Int) ≤ at2_271 ∧ at2_271 ≤ 3002 := e276 ▸ hW274.1 10
      have ztk2_272 := tz_b tk2_272
      have btk2_272 : (0 : Int) ≤ tk2_272 ∧ tk2_272 ≤ 5 := e277 ▸ hW274.1 11
      have bfk2_273 : (0 : Int) ≤ fk2_273 ∧ fk2_273 ≤ 6 := e278 ▸ hW274.1 16
      refine .inl ⟨rfl, ?_⟩
      rcases q281 with ⟨a284, a285, a286, a287⟩ | ⟨a288, a289, a290, a291⟩
      · have _q : True := trivial
        have z292 := tz_f (tk2_272)
        exact at_116p L G269 A270 (n) (at2_271) (tk2_272) (fk2_273) (nd1) (op1) (sy1) (na1) gL_0 gL_1 gL_2 hW274 hF282 hP283 ((e276)) ((e277)) ((e278)) (((hF275.1 31 rfl).trans (ex_nd1))) (((hF275.1 15 rfl).trans (ex_op1))) (((hF275.1 19 rfl).trans (ex_sy1))) (((hF275.1 28 rfl).trans (ex_na1))) (((hF275.1 9 rfl).trans (fx_9))) (((hF275.1 29 rfl).trans (fx_29))) (by omega) (by omega) (by omega) (by omega) (by omega) (by omega) (by omega) (by omega) (by omega)
      · have _q : True := trivial
        exfalso
        omega
  have at_96 : ∀ (L : jL) (Gx : Nat → Int) (Ax : Nat → Nat → Int) (n at1 tk1 fk1 nd1 op1 sy1 na1 sa1 : Int), jGet L 0 = some (.ref 66) → jGet L 1 = some (.int (i32 (lv))) → jGet L 2 = some (.int (i32 n)) → Wk Gx Ax → Fr [9, 10, 11, 12, 13, 14, 15, 16, 17, 18, 19, 28, 29, 31] [6, 7, 8, 9, 10, 11, 12, 14, 15, 16, 17, 18, 19, 20, 21, 22, 23, 24, 28] G A Gx Ax → Pf nd A Ax → Gx 10 = at1 → Gx 11 = tk1 → Gx 16 = fk1 → Gx 31 = nd1 → Gx 15 = op1 → Gx 19 = sy1 → Gx 28 = na1 → Ax 17 (n).toNat = sa1 → Gx 9 = ln → Gx 29 = vi → ((-2147483648 : Int) ≤ n ∧ n ≤ 2147483647) → (fk1 = 0) → (at0 ≤ at1) → (at1 ≤ le) → (nd ≤ n ∧ n ≤ 6998 ∧ n < nd1) → (sy ≤ sy1) → (sy1 ≤ na1 + 2) → (op1 = 0) → (0 ≤ sa1 ∧ sa1 ≤ 201) → (vi < sy1) → (nd1 - nd ≤ (2 * at1 - tz tk1) - (2 * at0 - tz tk0)) → wj X d jm297 (96, L, [], rV c0 c1 Gx Ax T) (fun o V' => ∃ (G' : Nat → Int) (A' : Nat → Nat → Int) (r : Int) (ln2 : Int) (at2 : Int) (fk2 : Int) (nd2 : Int) (sy2 : Int) (na2 : Int) (vi2 : Int) (lf2 : Int), V' = rV c0 c1 G' A' T ∧ o = .inl (some (.int (i32 r))) ∧ Wk G' A' ∧ Fr [9, 10, 11, 12, 13, 14, 15, 16, 17, 18, 19, 28, 29, 31] [6, 7, 8, 9, 10, 11, 12, 14, 15, 16, 17, 18, 19, 20, 21, 22, 23, 24, 28] G A G' A' ∧ Pf nd A A' ∧ ((-2147483648 : Int) ≤ r ∧ r ≤ 2147483647) ∧ G' 9 = ln2 ∧ G' 10 = at2 ∧ G' 16 = fk2 ∧ G' 31 = nd2 ∧ G' 19 = sy2 ∧ G' 28 = na2 ∧ G' 29 = vi2 ∧ A' 3 (ln2).toNat = lf2 ∧ (at0 ≤ at2) ∧ (nd ≤ nd2) ∧ (sy ≤ sy2) ∧ (sy2 ≤ na2 + 2) ∧ (vi ≤ vi2) ∧ (vi2 ≤ vi + 1) ∧ (0 ≤ r) ∧ (r ≤ 6999) ∧ (ln ≤ ln2) ∧ (ln2 ≤ li) ∧ (((1 ≤ fk2) ∧ (nd2 - nd ≤ 2 * at2 - (2 * at0 - tz tk0) + 14)) ∨ ((fk2 = 0) ∧ (vi2 = vi) ∧ (ln < ln2) ∧ (nd2 - nd ≤ 2 * at2 - (2 * at0 - tz tk0)) ∧ (at2 < lf2 ∨ li ≤ ln2) ∧ (nd ≤ r) ∧ (r < nd2)))) := by
    intro L Gx Ax n at1 tk1 fk1 nd1 op1 sy1 na1 sa1 gL_0 gL_1 gL_2 hWx hFx hPx ex_at1 ex_tk1 ex_fk1 ex_nd1 ex_op1 ex_sy1 ex_na1 ex_sa1 fx_9 fx_29 rx_n iv_0 iv_1 iv_2 iv_3 iv_4 iv_5 iv_6 iv_7 iv_8 iv_9
    have b_at1 : (0 : Int) ≤ at1 ∧ at1 ≤ 3002 := ex_at1 ▸ hWx.1 10
    have z_tk1 := tz_f tk1
    have b_tk1 : (0 : Int) ≤ tk1 ∧ tk1 ≤ 5 := ex_tk1 ▸ hWx.1 11
    have b_fk1 : (0 : Int) ≤ fk1 ∧ fk1 ≤ 6 := ex_fk1 ▸ hWx.1 16
    have b_nd1 : (0 : Int) ≤ nd1 ∧ nd1 ≤ 6999 := ex_nd1 ▸ hWx.1 31
    have b_op1 : (-2147483648 : Int) ≤ op1 ∧ op1 ≤ 2147483647 := ex_op1 ▸ hWx.1 15
    have b_sy1 : (0 : Int) ≤ sy1 ∧ sy1 ≤ 202 := ex_sy1 ▸ hWx.1 19
    have b_na1 : (0 : Int) ≤ na1 ∧ na1 ≤ 200 := ex_na1 ▸ hWx.1 28
    refine jx_ld (pc' := 97) (l' := L) (st' := [.ref 66]) rfl (jl_aloadn gL_0) ?_
    refine jr_get (pc' := 100) (i := 36) (v := .ref 86) rfl rfl (by decide) rfl rfl ?_
    refine jx_ld (pc' := 101) (l' := L) (st' := [.int (i32 (n)), .ref 86]) rfl (jl_iloadn gL_2) ?_
    refine jx_ld (pc' := 102) (l' := L) (st' := [.ref 66, .int (i32 (n)), .ref 86]) rfl (jl_aloadn gL_0) ?_
    refine jx_vr (pc' := 105) (as := []) (st := [.int (i32 (n)), .ref 86]) rfl rfl rfl rfl ⟨rfl, rfl, Nat.le_of_ble_eq_true rfl⟩ rfl rfl (RE_all X 9 (dd := d) (hd := by omega) (hW := hWx)  (ln := ln) (e_ln := show Gx 9 = ln from (fx_9)) (le := le) (e_le := show Ax 4 (ln).toNat = le from (congrFun (hFx.2 4 rfl) _).trans (e_le)) (at0 := at1) (e_at0 := show Gx 10 = at1 from (ex_at1)) (fk := fk1) (e_fk := show Gx 16 = fk1 from (ex_fk1)) (op0 := op1) (e_op0 := show Gx 15 = op1 from (ex_op1)) (nd := nd1) (e_nd := show Gx 31 = nd1 from (ex_nd1)) (tk0 := tk1) (e_tk0 := show Gx 11 = tk1 from (ex_tk1))    (p_0 := by omega) (p_1 := by omega) (p_2 := by omega) (p_3 := by omega) (p_4 := by omega) (p_5 := by omega)) (fun o V' hq => ?_)
    obtain ⟨G293, A294, r295, at2_296, fk2_297, op2_298, nd2_299, tk2_300, rfl, rfl, hW301, hF302, hQ303, b304, e305, e306, e307, e308, e309, p310, p311, p312, p313, p314, p315, q316⟩ := hq
    have hF317 := Fr_tr hFx hF302 (Fr_sub (by decide)) (Fr_sub (by decide))
    have k318 : A294 17 (n).toNat = sa1 := (hQ303 17 _ rfl (by omega)).trans (show Ax 17 (n).toNat = sa1 from (ex_sa1))
    have hP319 := Pf_tr hPx hQ303 (by omega)
    have bat2_296 : (0 : Int) ≤ at2_296 ∧ at2_296 ≤ 3002 := e305 ▸ hW301.1 10
    have bfk2_297 : (0 : Int) ≤ fk2_297 ∧ fk2_297 ≤ 6 := e306 ▸ hW301.1 16
    have bop2_298 : (-2147483648 : Int) ≤ op2_298 ∧ op2_298 ≤ 2147483647 := e307 ▸ hW301.1 15
    have bnd2_299 : (0 : Int) ≤ nd2_299 ∧ nd2_299 ≤ 6999 := e308 ▸ hW301.1 31
    have ztk2_300 := tz_b tk2_300
    have btk2_300 : (0 : Int) ≤ tk2_300 ∧ tk2_300 ≤ 5 := e309 ▸ hW301.1 11
    refine .inr ⟨_, rfl, ?_⟩
    rcases q316 with ⟨a320, a321, a322, a323, a324, a325⟩ | ⟨a326, a327, a328⟩ | ⟨a329, a330, a331⟩
    · have _q : True := trivial
      exfalso
      omega
    · have _q : True := trivial
      refine jr_st (pc' := 106) (i := 19) (m := 7000) (z := n) (y := r295) rfl (by decide) rfl (by decide) (by omega) (by omega) rfl ?_
      have hW333 : Wk G293 (uA A294 19 (n).toNat (r295)) := Wk_a hW301 (show (-2147483648 : Int) ≤ r295 by omega) (show r295 ≤ (2147483647 : Int) by omega)
      have hF334 := Fr_a (z := r295) (k := 19) (n := (n).toNat) hF317 (by decide)
      obtain ⟨A332, eA332⟩ : ∃ q, q = uA A294 19 (n).toNat (r295) := ⟨_, rfl⟩
      rw [← eA332]
      rw [← eA332] at hW333 hF334
      have q335 : A332 19 (n).toNat = r295 := by rw [eA332]; exact uA_eq
      have hP336 : Pf nd A A332 := eA332 ▸ Pf_a hP319 (z := n) (by omega) (by omega)
      have z337 := tz_f (tk2_300)
      exact at_106p L G293 A332 (n) (at2_296) (tk2_300) (fk2_297) (nd2_299) (op2_298) (sy1) (na1) gL_0 gL_1 gL_2 hW333 hF334 hP336 ((e305)) ((e309)) ((e306)) ((e308)) ((e307)) (((hF302.1 19 rfl).trans (ex_sy1))) (((hF302.1 28 rfl).trans (ex_na1))) (((hF302.1 9 rfl).trans (fx_9))) (((hF302.1 29 rfl).trans (fx_29))) (by omega) (by omega) (by omega) (by omega) (by omega) (by omega) (by omega) (by omega) (by omega)
    · have _q : True := trivial
      refine jr_st (pc' := 106) (i := 19) (m := 7000) (z := n) (y := r295) rfl (by decide) rfl (by decide) (by omega) (by omega) rfl ?_
      have hW339 : Wk G293 (uA A294 19 (n).toNat (r295)) := Wk_a hW301 (show (-2147483648 : Int) ≤ r295 by omega) (show r295 ≤ (2147483647 : Int) by omega)
      have hF340 := Fr_a (z := r295) (k := 19) (n := (n).toNat) hF317 (by decide)
      obtain ⟨A338, eA338⟩ : ∃ q, q = uA A294 19 (n).toNat (r295) := ⟨_, rfl⟩
      rw [← eA338]
      rw [← eA338] at hW339 hF340
      have q341 : A338 19 (n).toNat = r295 := by rw [eA338]; exact uA_eq
      have hP342 : Pf nd A A338 := eA338 ▸ Pf_a hP319 (z := n) (by omega) (by omega)
      have z343 := tz_f (tk2_300)
      exact at_106 L G293 A338 (n) (at2_296) (tk2_300) (fk2_297) (nd2_299) (op2_298) (sy1) (na1) (sa1) gL_0 gL_1 gL_2 hW339 hF340 hP342 ((e305)) ((e309)) ((e306)) ((e308)) ((e307)) (((hF302.1 19 rfl).trans (ex_sy1))) (((hF302.1 28 rfl).trans (ex_na1))) ((congrFun ((congrFun eA338 17).trans (uA_ne (by decide))) _).trans (k318)) (((hF302.1 9 rfl).trans (fx_9))) (((hF302.1 29 rfl).trans (fx_29))) (by omega) (by omega) (by omega) (by omega) (by omega) (by omega) (by omega) (by omega) (by omega) (by omega) (by omega)
  have at_96p : ∀ (L : jL) (Gx : Nat → Int) (Ax : Nat → Nat → Int) (n at1 tk1 fk1 nd1 op1 sy1 na1 : Int), jGet L 0 = some (.ref 66) → jGet L 1 = some (.int (i32 (lv))) → jGet L 2 = some (.int (i32 n)) → Wk Gx Ax → Fr [9, 10, 11, 12, 13, 14, 15, 16, 17, 18, 19, 28, 29, 31] [6, 7, 8, 9, 10, 11, 12, 14, 15, 16, 17, 18, 19, 20, 21, 22, 23, 24, 28] G A Gx Ax → Pf nd A Ax → Gx 10 = at1 → Gx 11 = tk1 → Gx 16 = fk1 → Gx 31 = nd1 → Gx 15 = op1 → Gx 19 = sy1 → Gx 28 = na1 → Gx 9 = ln → Gx 29 = vi → ((-2147483648 : Int) ≤ n ∧ n ≤ 2147483647) → (1 ≤ fk1) → (at0 ≤ at1) → (at1 ≤ le) → (nd ≤ n ∧ n ≤ 6998 ∧ n < nd1) → (sy ≤ sy1) → (sy1 ≤ na1 + 2) → (0 ≤ op1 ∧ op1 ≤ 9) → (nd1 - nd ≤ 2 * at1 - 2 * at0 + 8) → wj X d jm297 (96, L, [], rV c0 c1 Gx Ax T) (fun o V' => ∃ (G' : Nat → Int) (A' : Nat → Nat → Int) (r : Int) (ln2 : Int) (at2 : Int) (fk2 : Int) (nd2 : Int) (sy2 : Int) (na2 : Int) (vi2 : Int) (lf2 : Int), V' = rV c0 c1 G' A' T ∧ o = .inl (some (.int (i32 r))) ∧ Wk G' A' ∧ Fr [9, 10, 11, 12, 13, 14, 15, 16, 17, 18, 19, 28, 29, 31] [6, 7, 8, 9, 10, 11, 12, 14, 15, 16, 17, 18, 19, 20, 21, 22, 23, 24, 28] G A G' A' ∧ Pf nd A A' ∧ ((-2147483648 : Int) ≤ r ∧ r ≤ 2147483647) ∧ G' 9 = ln2 ∧ G' 10 = at2 ∧ G' 16 = fk2 ∧ G' 31 = nd2 ∧ G' 19 = sy2 ∧ G' 28 = na2 ∧ G' 29 = vi2 ∧ A' 3 (ln2).toNat = lf2 ∧ (at0 ≤ at2) ∧ (nd ≤ nd2) ∧ (sy ≤ sy2) ∧ (sy2 ≤ na2 + 2) ∧ (vi ≤ vi2) ∧ (vi2 ≤ vi + 1) ∧ (0 ≤ r) ∧ (r ≤ 6999) ∧ (ln ≤ ln2) ∧ (ln2 ≤ li) ∧ (((1 ≤ fk2) ∧ (nd2 - nd ≤ 2 * at2 - (2 * at0 - tz tk0) + 14)) ∨ ((fk2 = 0) ∧ (vi2 = vi) ∧ (ln < ln2) ∧ (nd2 - nd ≤ 2 * at2 - (2 * at0 - tz tk0)) ∧ (at2 < lf2 ∨ li ≤ ln2) ∧ (nd ≤ r) ∧ (r < nd2)))) := by
    intro L Gx Ax n at1 tk1 fk1 nd1 op1 sy1 na1 gL_0 gL_1 gL_2 hWx hFx hPx ex_at1 ex_tk1 ex_fk1 ex_nd1 ex_op1 ex_sy1 ex_na1 fx_9 fx_29 rx_n iv_0 iv_1 iv_2 iv_3 iv_4 iv_5 iv_6 iv_7
    have b_at1 : (0 : Int) ≤ at1 ∧ at1 ≤ 3002 := ex_at1 ▸ hWx.1 10
    have z_tk1 := tz_f tk1
    have b_tk1 : (0 : Int) ≤ tk1 ∧ tk1 ≤ 5 := ex_tk1 ▸ hWx.1 11
    have b_fk1 : (0 : Int) ≤ fk1 ∧ fk1 ≤ 6 := ex_fk1 ▸ hWx.1 16
    have b_nd1 : (0 : Int) ≤ nd1 ∧ nd1 ≤ 6999 := ex_nd1 ▸ hWx.1 31
    have b_op1 : (-2147483648 : Int) ≤ op1 ∧ op1 ≤ 2147483647 := ex_op1 ▸ hWx.1 15
    have b_sy1 : (0 : Int) ≤ sy1 ∧ sy1 ≤ 202 := ex_sy1 ▸ hWx.1 19
    have b_na1 : (0 : Int) ≤ na1 ∧ na1 ≤ 200 := ex_na1 ▸ hWx.1 28
    refine jx_ld (pc' := 97) (l' := L) (st' := [.ref 66]) rfl (jl_aloadn gL_0) ?_
    refine jr_get (pc' := 100) (i := 36) (v := .ref 86) rfl rfl (by decide) rfl rfl ?_
    refine jx_ld (pc' := 101) (l' := L) (st' := [.int (i32 (n)), .ref 86]) rfl (jl_iloadn gL_2) ?_
    refine jx_ld (pc' := 102) (l' := L) (st' := [.ref 66, .int (i32 (n)), .ref 86]) rfl (jl_aloadn gL_0) ?_
    refine jx_vr (pc' := 105) (as := []) (st := [.int (i32 (n)), .ref 86]) rfl rfl rfl rfl ⟨rfl, rfl, Nat.le_of_ble_eq_true rfl⟩ rfl rfl (RE_all X 9 (dd := d) (hd := by omega) (hW := hWx)  (ln := ln) (e_ln := show Gx 9 = ln from (fx_9)) (le := le) (e_le := show Ax 4 (ln).toNat = le from (congrFun (hFx.2 4 rfl) _).trans (e_le)) (at0 := at1) (e_at0 := show Gx 10 = at1 from (ex_at1)) (fk := fk1) (e_fk := show Gx 16 = fk1 from (ex_fk1)) (op0 := op1) (e_op0 := show Gx 15 = op1 from (ex_op1)) (nd := nd1) (e_nd := show Gx 31 = nd1 from (ex_nd1)) (tk0 := tk1) (e_tk0 := show Gx 11 = tk1 from (ex_tk1))    (p_0 := by omega) (p_1 := by omega) (p_2 := by omega) (p_3 := by omega) (p_4 := by omega) (p_5 := by omega)) (fun o V' hq => ?_)
    obtain ⟨G344, A345, r346, at2_347, fk2_348, op2_349, nd2_350, tk2_351, rfl, rfl, hW352, hF353, hQ354, b355, e356, e357, e358, e359, e360, p361, p362, p363, p364, p365, p366, q367⟩ := hq
    have hF368 := Fr_tr hFx hF353 (Fr_sub (by decide)) (Fr_sub (by decide))
    have hP369 := Pf_tr hPx hQ354 (by omega)
    have bat2_347 : (0 : Int) ≤ at2_347 ∧ at2_347 ≤ 3002 := e356 ▸ hW352.1 10
    have bfk2_348 : (0 : Int) ≤ fk2_348 ∧ fk2_348 ≤ 6 := e357 ▸ hW352.1 16
    have bop2_349 : (-2147483648 : Int) ≤ op2_349 ∧ op2_349 ≤ 2147483647 := e358 ▸ hW352.1 15
    have bnd2_350 : (0 : Int) ≤ nd2_350 ∧ nd2_350 ≤ 6999 := e359 ▸ hW352.1 31
    have ztk2_351 := tz_b tk2_351
    have btk2_351 : (0 : Int) ≤ tk2_351 ∧ tk2_351 ≤ 5 := e360 ▸ hW352.1 11
    refine .inr ⟨_, rfl, ?_⟩
    rcases q367 with ⟨a370, a371, a372, a373, a374, a375⟩ | ⟨a376, a377, a378⟩ | ⟨a379, a380, a381⟩
    · have _q : True := trivial
      refine jr_st (pc' := 106) (i := 19) (m := 7000) (z := n) (y := r346) rfl (by decide) rfl (by decide) (by omega) (by omega) rfl ?_
      have hW383 : Wk G344 (uA A345 19 (n).toNat (r346)) := Wk_a hW352 (show (-2147483648 : Int) ≤ r346 by omega) (show r346 ≤ (2147483647 : Int) by omega)
      have hF384 := Fr_a (z := r346) (k := 19) (n := (n).toNat) hF368 (by decide)
      obtain ⟨A382, eA382⟩ : ∃ q, q = uA A345 19 (n).toNat (r346) := ⟨_, rfl⟩
      rw [← eA382]
      rw [← eA382] at hW383 hF384
      have q385 : A382 19 (n).toNat = r346 := by rw [eA382]; exact uA_eq
      have hP386 : Pf nd A A382 := eA382 ▸ Pf_a hP369 (z := n) (by omega) (by omega)
      have z387 := tz_f (tk2_351)
      exact at_106p L G344 A382 (n) (at2_347) (tk2_351) (fk2_348) (nd2_350) (op2_349) (sy1) (na1) gL_0 gL_1 gL_2 hW383 hF384 hP386 ((e356)) ((e360)) ((e357)) ((e359)) ((e358)) (((hF353.1 19 rfl).trans (ex_sy1))) (((hF353.1 28 rfl).trans (ex_na1))) (((hF353.1 9 rfl).trans (fx_9))) (((hF353.1 29 rfl).trans (fx_29))) (by omega) (by omega) (by omega) (by omega) (by omega) (by omega) (by omega) (by omega) (by omega)
    · have _q : True := trivial
      exfalso
      omega
    · have _q : True := trivial
      exfalso
      omega
  have at_86 : ∀ (L : jL) (Gx : Nat → Int) (Ax : Nat → Nat → Int) (n at1 tk1 fk1 nd1 op1 sy1 na1 sa1 : Int), jGet L 0 = some (.ref 66) → jGet L 1 = some (.int (i32 (lv))) → jGet L 2 = some (.int (i32 n)) → Wk Gx Ax → Fr [9, 10, 11, 12, 13, 14, 15, 16, 17, 18, 19, 28, 29, 31] [6, 7, 8, 9, 10, 11, 12, 14, 15, 16, 17, 18, 19, 20, 21, 22, 23, 24, 28] G A Gx Ax → Pf nd A Ax → Gx 10 = at1 → Gx 11 = tk1 → Gx 16 = fk1 → Gx 31 = nd1 → Gx 15 = op1 → Gx 19 = sy1 → Gx 28 = na1 → Ax 17 (n).toNat = sa1 → Gx 9 = ln → Gx 29 = vi → ((-2147483648 : Int) ≤ n ∧ n ≤ 2147483647) → (fk1 = 0) → (at0 ≤ at1) → (at1 ≤ le) → (nd ≤ n ∧ n ≤ 6998 ∧ n < nd1) → (sy ≤ sy1) → (sy1 ≤ na1 + 2) → (op1 = 0) → (0 ≤ sa1 ∧ sa1 ≤ 201) → (vi < sy1) → (nd1 - nd ≤ (2 * at1 - tz tk1) - (2 * at0 - tz tk0)) → wj X d jm297 (86, L, [], rV c0 c1 Gx Ax T) (fun o V' => ∃ (G' : Nat → Int) (A' : Nat → Nat → Int) (r : Int) (ln2 : Int) (at2 : Int) (fk2 : Int) (nd2 : Int) (sy2 : Int) (na2 : Int) (vi2 : Int) (lf2 : Int), V' = rV c0 c1 G' A' T ∧ o = .inl (some (.int (i32 r))) ∧ Wk G' A' ∧ Fr [9, 10, 11, 12, 13, 14, 15, 16, 17, 18, 19, 28, 29, 31] [6, 7, 8, 9, 10, 11, 12, 14, 15, 16, 17, 18, 19, 20, 21, 22, 23, 24, 28] G A G' A' ∧ Pf nd A A' ∧ ((-2147483648 : Int) ≤ r ∧ r ≤ 2147483647) ∧ G' 9 = ln2 ∧ G' 10 = at2 ∧ G' 16 = fk2 ∧ G' 31 = nd2 ∧ G' 19 = sy2 ∧ G' 28 = na2 ∧ G' 29 = vi2 ∧ A' 3 (ln2).toNat = lf2 ∧ (at0 ≤ at2) ∧ (nd ≤ nd2) ∧ (sy ≤ sy2) ∧ (sy2 ≤ na2 + 2) ∧ (vi ≤ vi2) ∧ (vi2 ≤ vi + 1) ∧ (0 ≤ r) ∧ (r ≤ 6999) ∧ (ln ≤ ln2) ∧ (ln2 ≤ li) ∧ (((1 ≤ fk2) ∧ (nd2 - nd ≤ 2 * at2 - (2 * at0 - tz tk0) + 14)) ∨ ((fk2 = 0) ∧ (vi2 = vi) ∧ (ln < ln2) ∧ (nd2 - nd ≤ 2 * at2 - (2 * at0 - tz tk0)) ∧ (at2 < lf2 ∨ li ≤ ln2) ∧ (nd ≤ r) ∧ (r < nd2)))) := by
    intro L Gx Ax n at1 tk1 fk1 nd1 op1 sy1 na1 sa1 gL_0 gL_1 gL_2 hWx hFx hPx ex_at1 ex_tk1 ex_fk1 ex_nd1 ex_op1 ex_sy1 ex_na1 ex_sa1 fx_9 fx_29 rx_n iv_0 iv_1 iv_2 iv_3 iv_4 iv_5 iv_6 iv_7 iv_8 iv_9
    have b_at1 : (0 : Int) ≤ at1 ∧ at1 ≤ 3002 := ex_at1 ▸ hWx.1 10
    have z_tk1 := tz_f tk1
    have b_tk1 : (0 : Int) ≤ tk1 ∧ tk1 ≤ 5 := ex_tk1 ▸ hWx.1 11
    have b_fk1 : (0 : Int) ≤ fk1 ∧ fk1 ≤ 6 := ex_fk1 ▸ hWx.1 16
    have b_nd1 : (0 : Int) ≤ nd1 ∧ nd1 ≤ 6999 := ex_nd1 ▸ hWx.1 31
    have b_op1 : (-2147483648 : Int) ≤ op1 ∧ op1 ≤ 2147483647 := ex_op1 ▸ hWx.1 15
    have b_sy1 : (0 : Int) ≤ sy1 ∧ sy1 ≤ 202 := ex_sy1 ▸ hWx.1 19
    have b_na1 : (0 : Int) ≤ na1 ∧ na1 ≤ 200 := ex_na1 ▸ hWx.1 28
    refine jx_ld (pc' := 87) (l' := L) (st' := [.ref 66]) rfl (jl_aloadn gL_0) ?_
    refine jx_ld (pc' := 88) (l' := L) (st' := [.ref 66, .ref 66]) rfl (jl_aloadn gL_0) ?_
    refine jx_ar (pc' := 90) (st' := [.int (i32 (61)), .ref 66, .ref 66]) rfl rfl rfl rfl ?_
    have b388 : (-2147483648 : Int) ≤ Gx 13 ∧ Gx 13 ≤ 2147483647 := hWx.1 13
    refine jx_vr (pc' := 93) (as := [.int (i32 (61))]) (st := [.ref 66]) rfl rfl rfl rfl ⟨rfl, rfl, Nat.le_of_ble_eq_true rfl⟩ rfl rfl (c_is (dd := d) (hd := by omega) (hW := hWx) (k := 61) (tk := tk1) (e_tk := show Gx 11 = tk1 from (ex_tk1)) (tn := Gx 13) (e_tn := show Gx 13 = Gx 13 from rfl)  (h_k := ⟨(by decide), (by decide)⟩)  ) (fun o V' hq => ?_)
    obtain ⟨r389, rfl, rfl, b390, q391⟩ := hq
    refine .inr ⟨_, rfl, ?_⟩
    rcases q391 with ⟨rfl, a392, a393, a394⟩ | rfl
    · have _q : True := trivial
      refine jx_vr (pc' := 96) (as := [.int (i32 (1))]) (st := []) rfl rfl rfl rfl ⟨rfl, rfl, Nat.le_of_ble_eq_true rfl⟩ rfl rfl (c_need (dd := d) (hd := by omega) (hW := hWx) (g := 1) (ln := ln) (e_ln := show Gx 9 = ln from (fx_9)) (le := le) (e_le := show Ax 4 (ln).toNat = le from (congrFun (hFx.2 4 rfl) _).trans (e_le)) (at0 := at1) (e_at0 := show Gx 10 = at1 from (ex_at1)) (fk := fk1) (e_fk := show Gx 16 = fk1 from (ex_fk1)) (tk0 := tk1) (e_tk0 := show Gx 11 = tk1 from (ex_tk1))  (h_g := ⟨(by decide), (by decide)⟩)  (p_0 := by omega)) (fun o V' hq => ?_)
      obtain ⟨G395, A396, at2_397, tk2_398, fk2_399, rfl, rfl, hW400, hF401, e402, e403, e404, p405, p406, q407⟩ := hq
      have hF408 := Fr_tr hFx hF401 (Fr_sub (by decide)) (Fr_sub (by decide))
      have hP409 := Pf_f hPx hF401 (by decide)
      have bat2_397 : (0 : Int) ≤ at2_397 ∧ at2_397 ≤ 3002 := e402 ▸ hW400.1 10
      have ztk2_398 := tz_b tk2_398
      have btk2_398 : (0 : Int) ≤ tk2_398 ∧ tk2_398 ≤ 5 := e403 ▸ hW400.1 11
      have bfk2_399 : (0 : Int) ≤ fk2_399 ∧ fk2_399 ≤ 6 := e404 ▸ hW400.1 16
      refine .inl ⟨rfl, ?_⟩
      rcases q407 with ⟨a410, a411, a412, a413⟩ | ⟨a414, a415, a416, a417⟩
      · have _q : True := trivial
        have z418 := tz_f (tk2_398)
        exact at_96p L G395 A396 (n) (at2_397) (tk2_398) (fk2_399) (nd1) (op1) (sy1) (na1) gL_0 gL_1 gL_2 hW400 hF408 hP409 ((e402)) ((e403)) ((e404)) (((hF401.1 31 rfl).trans (ex_nd1))) (((hF401.1 15 rfl).trans (ex_op1))) (((hF401.1 19 rfl).trans (ex_sy1))) (((hF401.1 28 rfl).trans (ex_na1))) (((hF401.1 9 rfl).trans (fx_9))) (((hF401.1 29 rfl).trans (fx_29))) (by omega) (by omega) (by omega) (by omega) (by omega) (by omega) (by omega) (by omega) (by omega)
      · have _q : True := trivial
        have z419 := tz_f (tk2_398)
        exact at_96 L G395 A396 (n) (at2_397) (tk2_398) (fk2_399) (nd1) (op1) (sy1) (na1) (sa1) gL_0 gL_1 gL_2 hW400 hF408 hP409 ((e402)) ((e403)) ((e404)) (((hF401.1 31 rfl).trans (ex_nd1))) (((hF401.1 15 rfl).trans (ex_op1))) (((hF401.1 19 rfl).trans (ex_sy1))) (((hF401.1 28 rfl).trans (ex_na1))) ((congrFun (hF401.2 17 rfl) _).trans (ex_sa1)) (((hF401.1 9 rfl).trans (fx_9))) (((hF401.1 29 rfl).trans (fx_29))) (by omega) (by omega) (by omega) (by omega) (by omega) (by omega) (by omega) (by omega) (by omega) (by omega) (by omega)
    · have _q : True := trivial
      refine jx_vr (pc' := 96) (as := [.int (i32 (0))]) (st := []) rfl rfl rfl rfl ⟨rfl, rfl, Nat.le_of_ble_eq_true rfl⟩ rfl rfl (c_need (dd := d) (hd := by omega) (hW := hWx) (g := 0) (ln := ln) (e_ln := show Gx 9 = ln from (fx_9)) (le := le) (e_le := show Ax 4 (ln).toNat = le from (congrFun (hFx.2 4 rfl) _).trans (e_le)) (at0 := at1) (e_at0 := show Gx 10 = at1 from (ex_at1)) (fk := fk1) (e_fk := show Gx 16 = fk1 from (ex_fk1)) (tk0 := tk1) (e_tk0 := show Gx 11 = tk1 from (ex_tk1))  (h_g := ⟨(by decide), (by decide)⟩)  (p_0 := by omega)) (fun o V' hq => ?_)
      obtain ⟨G420, A421, at2_422, tk2_423, fk2_424, rfl, rfl, hW425, hF426, e427, e428, e429, p430, p431, q432⟩ := hq
      have hF433 := Fr_tr hFx hF426 (Fr_sub (by decide)) (Fr_sub (by decide))
      have hP434 := Pf_f hPx hF426 (by decide)
      have bat2_422 : (0 : Int) ≤ at2_422 ∧ at2_422 ≤ 3002 := e427 ▸ hW425.1 10
      have ztk2_423 := tz_b tk2_423
      have btk2_423 : (0 : Int) ≤ tk2_423 ∧ tk2_423 ≤ 5 := e428 ▸ hW425.1 11
      have bfk2_424 : (0 : Int) ≤ fk2_424 ∧ fk2_424 ≤ 6 := e429 ▸ hW425.1 16
      refine .inl ⟨rfl, ?_⟩
      rcases q432 with ⟨a435, a436, a437, a438⟩ | ⟨a439, a440, a441, a442⟩
      · have _q : True := trivial
        have z443 := tz_f (tk2_423)
        exact at_96p L G420 A421 (n) (at2_422) (tk2_423) (fk2_424) (nd1) (op1) (sy1) (na1) gL_0 gL_1 gL_2 hW425 hF433 hP434 ((e427)) ((e428)) ((e429)) (((hF426.1 31 rfl).trans (ex_nd1))) (((hF426.1 15 rfl).trans (ex_op1))) (((hF426.1 19 rfl).trans (ex_sy1))) (((hF426.1 28 rfl).trans (ex_na1))) (((hF426.1 9 rfl).trans (fx_9))) (((hF426.1 29 rfl).trans (fx_29))) (by omega) (by omega) (by omega) (by omega) (by omega) (by omega) (by omega) (by omega) (by omega)
      · have _q : True := trivial
        exfalso
        omega
  have at_86p : ∀ (L : jL) (Gx : Nat → Int) (Ax : Nat → Nat → Int) (n at1 tk1 fk1 nd1 op1 sy1 na1 : Int), jGet L 0 = some (.ref 66) → jGet L 1 = some (.int (i32 (lv))) → jGet L 2 = some (.int (i32 n)) → Wk Gx Ax → Fr [9, 10, 11, 12, 13, 14, 15, 16, 17, 18, 19, 28, 29, 31] [6, 7, 8, 9, 10, 11, 12, 14, 15, 16, 17, 18, 19, 20, 21, 22, 23, 24, 28] G A Gx Ax → Pf nd A Ax → Gx 10 = at1 → Gx 11 = tk1 → Gx 16 = fk1 → Gx 31 = nd1 → Gx 15 = op1 → Gx 19 = sy1 → Gx 28 = na1 → Gx 9 = ln → Gx 29 = vi → ((-2147483648 : Int) ≤ n ∧ n ≤ 2147483647) → (1 ≤ fk1) → (at0 ≤ at1) → (at1 ≤ le) → (nd ≤ n ∧ n ≤ 6998 ∧ n < nd1) → (sy ≤ sy1) → (sy1 ≤ na1 + 2) → (0 ≤ op1 ∧ op1 ≤ 9) → (nd1 - nd ≤ 2 * at1 - 2 * at0 + 8) → wj X d jm297 (86, L, [], rV c0 c1 Gx Ax T) (fun o V' => ∃ (G' : Nat → Int) (A' : Nat → Nat → Int) (r : Int) (ln2 : Int) (at2 : Int) (fk2 : Int) (nd2 : Int) (sy2 : Int) (na2 : Int) (vi2 : Int) (lf2 : Int), V' = rV c0 c1 G' A' T ∧ o = .inl (some (.int (i32 r))) ∧ Wk G' A' ∧ Fr [9, 10, 11, 12, 13, 14, 15, 16, 17, 18, 19, 28, 29, 31] [6, 7, 8, 9, 10, 11, 12, 14, 15, 16, 17, 18, 19, 20, 21, 22, 23, 24, 28] G A G' A' ∧ Pf nd A A' ∧ ((-2147483648 : Int) ≤ r ∧ r ≤ 2147483647) ∧ G' 9 = ln2 ∧ G' 10 = at2 ∧ G' 16 = fk2 ∧ G' 31 = nd2 ∧ G' 19 = sy2 ∧ G' 28 = na2 ∧ G' 29 = vi2 ∧ A' 3 (ln2).toNat = lf2 ∧ (at0 ≤ at2) ∧ (nd ≤ nd2) ∧ (sy ≤ sy2) ∧ (sy2 ≤ na2 + 2) ∧ (vi ≤ vi2) ∧ (vi2 ≤ vi + 1) ∧ (0 ≤ r) ∧ (r ≤ 6999) ∧ (ln ≤ ln2) ∧ (ln2 ≤ li) ∧ (((1 ≤ fk2) ∧ (nd2 - nd ≤ 2 * at2 - (2 * at0 - tz tk0) + 14)) ∨ ((fk2 = 0) ∧ (vi2 = vi) ∧ (ln < ln2) ∧ (nd2 - nd ≤ 2 * at2 - (2 * at0 - tz tk0)) ∧ (at2 < lf2 ∨ li ≤ ln2) ∧ (nd ≤ r) ∧ (r < nd2)))) := by
    intro L Gx Ax n at1 tk1 fk1 nd1 op1 sy1 na1 gL_0 gL_1 gL_2 hWx hFx hPx ex_at1 ex_tk1 ex_fk1 ex_nd1 ex_op1 ex_sy1 ex_na1 fx_9 fx_29 rx_n iv_0 iv_1 iv_2 iv_3 iv_4 iv_5 iv_6 iv_7
    have b_at1 : (0 : Int) ≤ at1 ∧ at1 ≤ 3002 := ex_at1 ▸ hWx.1 10
    have z_tk1 := tz_f tk1
    have b_tk1 : (0 : Int) ≤ tk1 ∧ tk1 ≤ 5 := ex_tk1 ▸ hWx.1 11
    have b_fk1 : (0 : Int) ≤ fk1 ∧ fk1 ≤ 6 := ex_fk1 ▸ hWx.1 16
    have b_nd1 : (0 : Int) ≤ nd1 ∧ nd1 ≤ 6999 := ex_nd1 ▸ hWx.1 31
    have b_op1 : (-2147483648 : Int) ≤ op1 ∧ op1 ≤ 2147483647 := ex_op1 ▸ hWx.1 15
    have b_sy1 : (0 : Int) ≤ sy1 ∧ sy1 ≤ 202 := ex_sy1 ▸ hWx.1 19
    have b_na1 : (0 : Int) ≤ na1 ∧ na1 ≤ 200 := ex_na1 ▸ hWx.1 28
    refine jx_ld (pc' := 87) (l' := L) (st' := [.ref 66]) rfl (jl_aloadn gL_0) ?_
    refine jx_ld (pc' := 88) (l' := L) (st' := [.ref 66, .ref 66]) rfl (jl_aloadn gL_0) ?_
    refine jx_ar (pc' := 90) (st' := [.int (i32 (61)), .ref 66, .ref 66]) rfl rfl rfl rfl ?_
    have b444 : (-2147483648 : Int) ≤ Gx 13 ∧ Gx 13 ≤ 2147483647 := hWx.1 13
    refine jx_vr (pc' := 93) (as := [.int (i32 (61))]) (st := [.ref 66]) rfl rfl rfl rfl ⟨rfl, rfl, Nat.le_of_ble_eq_true rfl⟩ rfl rfl (c_is (dd := d) (hd := by omega) (hW := hWx) (k := 61) (tk := tk1) (e_tk := show Gx 11 = tk1 from (ex_tk1)) (tn := Gx 13) (e_tn := show Gx 13 = Gx 13 from rfl)  (h_k := ⟨(by decide), (by decide)⟩)  ) (fun o V' hq => ?_)
    obtain ⟨r445, rfl, rfl, b446, q447⟩ := hq
    refine .inr ⟨_, rfl, ?_⟩
    rcases q447 with ⟨rfl, a448, a449, a450⟩ | rfl
    · have _q : True := trivial
      refine jx_vr (pc' := 96) (as := [.int (i32 (1))]) (st := []) rfl rfl rfl rfl ⟨rfl, rfl, Nat.le_of_ble_eq_true rfl⟩ rfl rfl (c_need (dd := d) (hd := by omega) (hW := hWx) (g := 1) (ln := ln) (e_ln := show Gx 9 = ln from (fx_9)) (le := le) (e_le := show Ax 4 (ln).toNat = le from (congrFun (hFx.2 4 rfl) _).trans (e_le)) (at0 := at1) (e_at0 := show Gx 10 = at1 from (ex_at1)) (fk := fk1) (e_fk := show Gx 16 = fk1 from (ex_fk1)) (tk0 := tk1) (e_tk0 := show Gx 11 = tk1 from (ex_tk1))  (h_g := ⟨(by decide), (by decide)⟩)  (p_0 := by omega)) (fun o V' hq => ?_)
      obtain ⟨G451, A452, at2_453, tk2_454, fk2_455, rfl, rfl, hW456, hF457, e458, e459, e460, p461, p462, q463⟩ := hq
      have hF464 := Fr_tr hFx hF457 (Fr_sub (by decide)) (Fr_sub (by decide))
      have hP465 := Pf_f hPx hF457 (by decide)
      have bat2_453 : (0 : Int) ≤ at2_453 ∧ at2_453 ≤ 3002 := e458 ▸ hW456.1 10
      have ztk2_454 := tz_b tk2_454
      have btk2_454 : (0 : Int) ≤ tk2_454 ∧ tk2_454 ≤ 5 := e459 ▸ hW456.1 11
      have bfk2_455 : (0 : Int) ≤ fk2_455 ∧ fk2_455 ≤ 6 := e460 ▸ hW456.1 16
      refine .inl ⟨rfl, ?_⟩
      rcases q463 with ⟨a466, a467, a468, a469⟩ | ⟨a470, a471, a472, a473⟩
      · have _q : True := trivial
        have z474 := tz_f (tk2_454)
        exact at_96p L G451 A452 (n) (at2_453) (tk2_454) (fk2_455) (nd1) (op1) (sy1) (na1) gL_0 gL_1 gL_2 hW456 hF464 hP465 ((e458)) ((e459)) ((e460)) (((hF457.1 31 rfl).trans (ex_nd1))) (((hF457.1 15 rfl).trans (ex_op1))) (((hF457.1 19 rfl).trans (ex_sy1))) (((hF457.1 28 rfl).trans (ex_na1))) (((hF457.1 9 rfl).trans (fx_9))) (((hF457.1 29 rfl).trans (fx_29))) (by omega) (by omega) (by omega) (by omega) (by omega) (by omega) (by omega) (by omega) (by omega)
      · have _q : True := trivial
        exfalso
        omega
    · have _q : True := trivial
      refine jx_vr (pc' := 96) (as := [.int (i32 (0))]) (st := []) rfl rfl rfl rfl ⟨rfl, rfl, Nat.le_of_ble_eq_true rfl⟩ rfl rfl (c_need (dd := d) (hd := by omega) (hW := hWx) (g := 0) (ln := ln) (e_ln := show Gx 9 = ln from (fx_9)) (le := le) (e_le := show Ax 4 (ln).toNat = le from (congrFun (hFx.2 4 rfl) _).trans (e_le)) (at0 := at1) (e_at0 := show Gx 10 = at1 from (ex_at1)) (fk := fk1) (e_fk := show Gx 16 = fk1 from (ex_fk1)) (tk0 := tk1) (e_tk0 := show Gx 11 = tk1 from (ex_tk1))  (h_g := ⟨(by decide), (by decide)⟩)  (p_0 := by omega)) (fun o V' hq => ?_)
      obtain ⟨G475, A476, at2_477, tk2_478, fk2_479, rfl, rfl, hW480, hF481, e482, e483, e484, p485, p486, q487⟩ := hq
      have hF488 := Fr_tr hFx hF481 (Fr_sub (by decide)) (Fr_sub (by decide))
      have hP489 := Pf_f hPx hF481 (by decide)
      have bat2_477 : (0 : Int) ≤ at2_477 ∧ at2_477 ≤ 3002 := e482 ▸ hW480.1 10
      have ztk2_478 := tz_b tk2_478
      have btk2_478 : (0 : Int) ≤ tk2_478 ∧ tk2_478 ≤ 5 := e483 ▸ hW480.1 11
      have bfk2_479 : (0 : Int) ≤ fk2_479 ∧ fk2_479 ≤ 6 := e484 ▸ hW480.1 16
      refine .inl ⟨rfl, ?_⟩
      rcases q487 with ⟨a490, a491, a492, a493⟩ | ⟨a494, a495, a496, a497⟩
      · have _q : True := trivial
        have z498 := tz_f (tk2_478)
        exact at_96p L G475 A476 (n) (at2_477) (tk2_478) (fk2_479) (nd1) (op1) (sy1) (na1) gL_0 gL_1 gL_2 hW480 hF488 hP489 ((e482)) ((e483)) ((e484)) (((hF481.1 31 rfl).trans (ex_nd1))) (((hF481.1 15 rfl).trans (ex_op1))) (((hF481.1 19 rfl).trans (ex_sy1))) (((hF481.1 28 rfl).trans (ex_na1))) (((hF481.1 9 rfl).trans (fx_9))) (((hF481.1 29 rfl).trans (fx_29))) (by omega) (by omega) (by omega) (by omega) (by omega) (by omega) (by omega) (by omega) (by omega)
      · have _q : True := trivial
        exfalso
        omega
  refine jx_ld (pc' := 1) (l' := [(0, .ref 66), (1, .int (i32 (lv)))]) (st' := [.ref 66]) rfl (jl_aloadn rfl) ?_
  refine jx_vr (pc' := 4) (as := []) (st := []) rfl rfl rfl rfl ⟨rfl, rfl, Nat.le_of_ble_eq_true rfl⟩ rfl rfl (c_next (dd := d) (hd := by omega) (hW := hW)  (ln := ln) (e_ln := show G 9 = ln from (e_ln)) (le := le) (e_le := show A 4 (ln).toNat = le from (e_le)) (at0 := at0) (e_at0 := show G 10 = at0 from (e_at0))    (p_0 := by omega)) (fun o V' hq => ?_)
  obtain ⟨G499, A500, at2_501, tk2_502, rfl, rfl, hW503, hF504, e505, e506, p507, p508, p509, -⟩ := hq
  have hF511 := Fr_tr hF0 hF504 (Fr_sub (by decide)) (Fr_sub (by decide))
  have hP512 := Pf_f hP0 hF504 (by decide)
  have bat2_501 : (0 : Int) ≤ at2_501 ∧ at2_501 ≤ 3002 := e505 ▸ hW503.1 10
  have ztk2_502 := tz_b tk2_502
  have btk2_502 : (0 : Int) ≤ tk2_502 ∧ tk2_502 ≤ 5 := e506 ▸ hW503.1 11
  refine .inl ⟨rfl, ?_⟩
  refine jx_ld (pc' := 5) (l' := [(0, .ref 66), (1, .int (i32 (lv)))]) (st' := [.ref 66]) rfl (jl_aloadn rfl) ?_
  have z513 := tz_f (tk2_502)
  refine jr_get (pc' := 8) (i := 11) (v := .int (i32 (tk2_502))) rfl rfl (by decide) (rFv_eq (by decide) (show G499 11 = tk2_502 from (e506))) rfl ?_
  refine jx_if_ne (pc' := 11) (tg := 38) rfl rfl rfl (Int.le_trans (by decide : (-2147483648 : Int) ≤ 0) btk2_502.1) (Int.le_trans btk2_502.2 (by decide : (5 : Int) ≤ 2147483647)) (fun h514 => ?_) (fun h514 => ?_)
  · have _q := h514
    refine jx_ld (pc' := 39) (l' := [(0, .ref 66), (1, .int (i32 (lv)))]) (st' := [.ref 66]) rfl (jl_aloadn rfl) ?_
    have z515 := tz_f (tk2_502)
    refine jr_get (pc' := 42) (i := 11) (v := .int (i32 (tk2_502))) rfl rfl (by decide) (rFv_eq (by decide) (show G499 11 = tk2_502 from (e506))) rfl ?_
    refine jx_ar (pc' := 43) (st' := [.int (i32 (1)), .int (i32 (tk2_502))]) rfl rfl rfl rfl ?_
    refine jx_icmp_eq (pc' := 46) (tg := 57) rfl rfl rfl (Int.le_trans (by decide : (-2147483648 : Int) ≤ 0) btk2_502.1) (Int.le_trans btk2_502.2 (by decide : (5 : Int) ≤ 2147483647)) (by decide) (by decide) (fun h516 => ?_) (fun h516 => ?_)
    · have _q := h516
      refine jx_ld (pc' := 58) (l' := [(0, .ref 66), (1, .int (i32 (lv)))]) (st' := [.ref 66]) rfl (jl_aloadn rfl) ?_
      refine jx_ar (pc' := 60) (st' := [.int (i32 (27)), .ref 66]) rfl rfl rfl rfl ?_
      refine jx_ar (pc' := 61) (st' := [.int (i32 (0)), .int (i32 (27)), .ref 66]) rfl rfl rfl rfl ?_
      refine jx_ar (pc' := 62) (st' := [.int (i32 (0)), .int (i32 (0)), .int (i32 (27)), .ref 66]) rfl rfl rfl rfl ?_
      refine jx_ar (pc' := 63) (st' := [.int (i32 (0)), .int (i32 (0)), .int (i32 (0)), .int (i32 (27)), .ref 66]) rfl rfl rfl rfl ?_
      refine jx_ar (pc' := 64) (st' := [.int (i32 (0)), .int (i32 (0)), .int (i32 (0)), .int (i32 (0)), .int (i32 (27)), .ref 66]) rfl rfl rfl rfl ?_
      refine jx_vr (pc' := 67) (as := [.int (i32 (27)), .int (i32 (0)), .int (i32 (0)), .int (i32 (0)), .int (i32 (0))]) (st := []) rfl rfl rfl rfl ⟨rfl, rfl, Nat.le_of_ble_eq_true rfl⟩ rfl rfl (c_node (dd := d) (hd := by omega) (hW := hW503) (kind := 27) (a := 0) (b := 0) (c := 0) (e := 0) (nd := nd) (e_nd := show G499 31 = nd from ((hF504.1 31 rfl).trans (e_nd)))  (h_kind := ⟨(by decide), (by decide)⟩) (h_a := ⟨(by decide), (by decide)⟩) (h_b := ⟨(by decide), (by decide)⟩) (h_c := ⟨(by decide), (by decide)⟩) (h_e := ⟨(by decide), (by decide)⟩)  (p_0 := by omega) (p_1 := by omega)) (fun o V' hq => ?_)
      obtain ⟨G517, A518, nd2_519, rfl, rfl, hW520, hF521, hQ522, e523, p524, -⟩ := hq
      have hF526 := Fr_tr hF511 hF521 (Fr_sub (by decide)) (Fr_sub (by decide))
      have hP527 := Pf_tr hP512 hQ522 (by omega)
      have bnd2_519 : (0 : Int) ≤ nd2_519 ∧ nd2_519 ≤ 6999 := e523 ▸ hW520.1 31
      refine .inr ⟨_, rfl, ?_⟩
      refine jx_ld (pc' := 68) (l' := jSto1 [(0, .ref 66), (1, .int (i32 (lv)))] 2 (.int (i32 (nd)))) (st' := []) rfl rfl ?_
      obtain ⟨L528, eL528⟩ : ∃ q, q = jSto1 [(0, .ref 66), (1, .int (i32 (lv)))] 2 (.int (i32 (nd))) := ⟨_, rfl⟩
      rw [← eL528]
      have gL528_0 : jGet L528 0 = some (.ref 66) := eL528 ▸ jg_ne (by decide) (rfl : jGet [(0, .ref 66), (1, .int (i32 (lv)))] 0 = some (.ref 66)) rfl
      have gL528_1 : jGet L528 1 = some (.int (i32 (lv))) := eL528 ▸ jg_ne (by decide) (rfl : jGet [(0, .ref 66), (1, .int (i32 (lv)))] 1 = some (.int (i32 (lv)))) rfl
      have gL528_2 : jGet L528 2 = some (.int (i32 (nd))) := eL528 ▸ jg_eq
      refine jx_ld (pc' := 69) (l' := L528) (st' := [.ref 66]) rfl (jl_aloadn gL528_0) ?_
      refine jr_get (pc' := 72) (i := 34) (v := .ref 84) rfl rfl (by decide) rfl rfl ?_
      refine jx_ld (pc' := 73) (l' := L528) (st' := [.int (i32 (nd)), .ref 84]) rfl (jl_iloadn gL528_2) ?_
      refine jx_ld (pc' := 74) (l' := L528) (st' := [.ref 66, .int (i32 (nd)), .ref 84]) rfl (jl_aloadn gL528_0) ?_
      refine jx_ar (pc' := 76) (st' := [.int (i32 (9)), .ref 66, .int (i32 (nd)), .ref 84]) rfl rfl rfl rfl ?_
      refine jx_ar (pc' := 77) (st' := [.int (i32 (2)), .int (i32 (9)), .ref 66, .int (i32 (nd)), .ref 84]) rfl rfl rfl rfl ?_
      refine jx_vr (pc' := 80) (as := [.int (i32 (9)), .int (i32 (2))]) (st := [.int (i32 (nd)), .ref 84]) rfl rfl rfl rfl ⟨rfl, rfl, Nat.le_of_ble_eq_true rfl⟩ rfl rfl (c_newName (dd := d) (hd := by omega) (hW := hW520) (kind := 9) (many := 2) (sy := sy) (e_sy := show G517 19 = sy from ((hF521.1 19 rfl).trans ((hF504.1 19 rfl).trans (e_sy)))) (na := na) (e_na := show G517 28 = na from ((hF521.1 28 rfl).trans ((hF504.1 28 rfl).trans (e_na)))) (fk := fk) (e_fk := show G517 16 = fk from ((hF521.1 16 rfl).trans ((hF504.1 16 rfl).trans (e_fk))))  (h_kind := ⟨(by decide), (by decide)⟩) (h_many := ⟨(by decide), (by decide)⟩)  (p_0 := by omega) (p_1 := by omega)) (fun o V' hq => ?_)
      obtain ⟨G529, A530, r531, sy2_532, na2_533, fk2_534, rfl, rfl, hW535, hF536, b537, e538, e539, e540, q541⟩ := hq
      have hF542 := Fr_tr hF526 hF536 (Fr_sub (by decide)) (Fr_sub (by decide))
      have hP543 := Pf_f hP527 hF536 (by decide)
      have bsy2_532 : (0 : Int) ≤ sy2_532 ∧ sy2_532 ≤ 202 := e538 ▸ hW535.1 19
      have bna2_533 : (0 : Int) ≤ na2_533 ∧ na2_533 ≤ 200 := e539 ▸ hW535.1 28
      have bfk2_534 : (0 : Int) ≤ fk2_534 ∧ fk2_534 ≤ 6 := e540 ▸ hW535.1 16
      refine .inr ⟨_, rfl, ?_⟩
      rcases q541 with ⟨a544, a545, a546, a547, a548⟩ | ⟨a549, a550, a551, a552⟩
      · have _q : True := trivial
        refine jr_st (pc' := 81) (i := 17) (m := 7000) (z := nd) (y := r531) rfl (by decide) rfl (by decide) (by omega) (by omega) rfl ?_
        have hW554 : Wk G529 (uA A530 17 (nd).toNat (r531)) := Wk_a hW535 (show (-2147483648 : Int) ≤ r531 by omega) (show r531 ≤ (2147483647 : Int) by omega)
        have hF555 := Fr_a (z := r531) (k := 17) (n := (nd).toNat) hF542 (by decide)
        obtain ⟨A553, eA553⟩ : ∃ q, q = uA A530 17 (nd).toNat (r531) := ⟨_, rfl⟩
        rw [← eA553]
        rw [← eA553] at hW554 hF555
        have q556 : A553 17 (nd).toNat = r531 := by rw [eA553]; exact uA_eq
        have hP557 : Pf nd A A553 := eA553 ▸ Pf_a hP543 (z := nd) (by omega) (by omega)
        refine jx_ld (pc' := 82) (l' := L528) (st' := [.ref 66]) rfl (jl_aloadn gL528_0) ?_
        refine jx_ar (pc' := 83) (st' := [.int (i32 (1)), .ref 66]) rfl rfl rfl rfl ?_
        refine jx_vr (pc' := 86) (as := [.int (i32 (1))]) (st := []) rfl rfl rfl rfl ⟨rfl, rfl, Nat.le_of_ble_eq_true rfl⟩ rfl rfl (c_need (dd := d) (hd := by omega) (hW := hW554) (g := 1) (ln := ln) (e_ln := show G529 9 = ln from ((hF536.1 9 rfl).trans ((hF521.1 9 rfl).trans ((hF504.1 9 rfl).trans (e_ln))))) (le := le) (e_le := show A553 4 (ln).toNat = le from (congrFun (((congrFun eA553 4).trans (uA_ne (by decide))).trans ((hF536.2 4 rfl).trans ((hF521.2 4 rfl).trans (hF504.2 4 rfl)))) _).trans (e_le)) (at0 := at2_501) (e_at0 := show G529 10 = at2_501 from ((hF536.1 10 rfl).trans ((hF521.1 10 rfl).trans (e505)))) (fk := fk2_534) (e_fk := show G529 16 = fk2_534 from (e540)) (tk0 := tk2_502) (e_tk0 := show G529 11 = tk2_502 from ((hF536.1 11 rfl).trans ((hF521.1 11 rfl).trans (e506))))  (h_g := ⟨(by decide), (by decide)⟩)  (p_0 := by omega)) (fun o V' hq => ?_)
        obtain ⟨G558, A559, at2_560, tk2_561, fk2_562, rfl, rfl, hW563, hF564, e565, e566, e567, p568, p569, q570⟩ := hq
        have hF571 := Fr_tr hF555 hF564 (Fr_sub (by decide)) (Fr_sub (by decide))
        have hP572 := Pf_f hP557 hF564 (by decide)
        have bat2_560 : (0 : Int) ≤ at2_560 ∧ at2_560 ≤ 3002 := e565 ▸ hW563.1 10
        have ztk2_561 := tz_b tk2_561
        have btk2_561 : (0 : Int) ≤ tk2_561 ∧ tk2_561 ≤ 5 := e566 ▸ hW563.1 11
        have bfk2_562 : (0 : Int) ≤ fk2_562 ∧ fk2_562 ≤ 6 := e567 ▸ hW563.1 16
        refine .inl ⟨rfl, ?_⟩
        rcases q570 with ⟨a573, a574, a575, a576⟩ | ⟨a577, a578, a579, a580⟩
        · have _q : True := trivial
          have z581 := tz_f (tk2_561)
          exact at_86p L528 G558 A559 (nd) (at2_560) (tk2_561) (fk2_562) (nd2_519) (op0) (sy2_532) (na2_533) gL528_0 gL528_1 gL528_2 hW563 hF571 hP572 ((e565)) ((e566)) ((e567)) (((hF564.1 31 rfl).trans ((hF536.1 31 rfl).trans (e523)))) (((hF564.1 15 rfl).trans ((hF536.1 15 rfl).trans ((hF521.1 15 rfl).trans ((hF504.1 15 rfl).trans (e_op0)))))) (((hF564.1 19 rfl).trans (e538))) (((hF564.1 28 rfl).trans (e539))) (((hF564.1 9 rfl).trans ((hF536.1 9 rfl).trans ((hF521.1 9 rfl).trans ((hF504.1 9 rfl).trans (e_ln)))))) (((hF564.1 29 rfl).trans ((hF536.1 29 rfl).trans ((hF521.1 29 rfl).trans ((hF504.1 29 rfl).trans (e_vi)))))) (by omega) (by omega) (by omega) (by omega) (by omega) (by omega) (by omega) (by omega) (by omega)
        · have _q : True := trivial
          have z582 := tz_f (tk2_561)
          exact at_86 L528 G558 A559 (nd) (at2_560) (tk2_561) (fk2_562) (nd2_519) (op0) (sy2_532) (na2_533) (r531) gL528_0 gL528_1 gL528_2 hW563 hF571 hP572 ((e565)) ((e566)) ((e567)) (((hF564.1 31 rfl).trans ((hF536.1 31 rfl).trans (e523)))) (((hF564.1 15 rfl).trans ((hF536.1 15 rfl).trans ((hF521.1 15 rfl).trans ((hF504.1 15 rfl).trans (e_op0)))))) (((hF564.1 19 rfl).trans (e538))) (((hF564.1 28 rfl).trans (e539))) ((congrFun (hF564.2 17 rfl) _).trans (q556)) (((hF564.1 9 rfl).trans ((hF536.1 9 rfl).trans ((hF521.1 9 rfl).trans ((hF504.1 9 rfl).trans (e_ln)))))) (((hF564.1 29 rfl).trans ((hF536.1 29 rfl).trans ((hF521.1 29 rfl).trans ((hF504.1 29 rfl).trans (e_vi)))))) (by omega) (by omega) (by omega) (by omega) (by omega) (by omega) (by omega) (by omega) (by omega) (by omega) (by omega)
      · have _q : True := trivial
        refine jr_st (pc' := 81) (i := 17) (m := 7000) (z := nd) (y := r531) rfl (by decide) rfl (by decide) (by omega) (by omega) rfl ?_
        have hW584 : Wk G529 (uA A530 17 (nd).toNat (r531)) := Wk_a hW535 (show (-2147483648 : Int) ≤ r531 by omega) (show r531 ≤ (2147483647 : Int) by omega)
        have hF585 := Fr_a (z := r531) (k := 17) (n := (nd).toNat) hF542 (by decide)
        obtain ⟨A583, eA583⟩ : ∃ q, q = uA A530 17 (nd).toNat (r531) := ⟨_, rfl⟩
        rw [← eA583]
        rw [← eA583] at hW584 hF585
        have q586 : A583 17 (nd).toNat = r531 := by rw [eA583]; exact uA_eq
        have hP587 : Pf nd A A583 := eA583 ▸ Pf_a hP543 (z := nd) (by omega) (by omega)
        refine jx_ld (pc' := 82) (l' := L528) (st' := [.ref 66]) rfl (jl_aloadn gL528_0) ?_
        refine jx_ar (pc' := 83) (st' := [.int (i32 (1)), .ref 66]) rfl rfl rfl rfl ?_
        refine jx_vr (pc' := 86) (as := [.int (i32 (1))]) (st := []) rfl rfl rfl rfl ⟨rfl, rfl, Nat.le_of_ble_eq_true rfl⟩ rfl rfl (c_need (dd := d) (hd := by omega) (hW := hW584) (g := 1) (ln := ln) (e_ln := show G529 9 = ln from ((hF536.1 9 rfl).trans ((hF521.1 9 rfl).trans ((hF504.1 9 rfl).trans (e_ln))))) (le := le) (e_le := show A583 4 (ln).toNat = le from (congrFun (((congrFun eA583 4).trans (uA_ne (by decide))).trans ((hF536.2 4 rfl).trans ((hF521.2 4 rfl).trans (hF504.2 4 rfl)))) _).trans (e_le)) (at0 := at2_501) (e_at0 := show G529 10 = at2_501 from ((hF536.1 10 rfl).trans ((hF521.1 10 rfl).trans (e505)))) (fk := fk2_534) (e_fk := show G529 16 = fk2_534 from (e540)) (tk0 := tk2_502) (e_tk0 := show G529 11 = tk2_502 from ((hF536.1 11 rfl).trans ((hF521.1 11 rfl).trans (e506))))  (h_g := ⟨(by decide), (by decide)⟩)  (p_0 := by omega)) (fun o V' hq => ?_)
        obtain ⟨G588, A589, at2_590, tk2_591, fk2_592, rfl, rfl, hW593, hF594, e595, e596, e597, p598, p599, q600⟩ := hq
        have hF601 := Fr_tr hF585 hF594 (Fr_sub (by decide)) (Fr_sub (by decide))
        have hP602 := Pf_f hP587 hF594 (by decide)
        have bat2_590 : (0 : Int) ≤ at2_590 ∧ at2_590 ≤ 3002 := e595 ▸ hW593.1 10
        have ztk2_591 := tz_b tk2_591
        have btk2_591 : (0 : Int) ≤ tk2_591 ∧ tk2_591 ≤ 5 := e596 ▸ hW593.1 11
        have bfk2_592 : (0 : Int) ≤ fk2_592 ∧ fk2_592 ≤ 6 := e597 ▸ hW593.1 16
        refine .inl ⟨rfl, ?_⟩
        rcases q600 with ⟨a603, a604, a605, a606⟩ | ⟨a607, a608, a609, a610⟩
        · have _q : True := trivial
          have z611 := tz_f (tk2_591)
          exact at_86p L528 G588 A589 (nd) (at2_590) (tk2_591) (fk2_592) (nd2_519) (op0) (sy2_532) (na2_533) gL528_0 gL528_1 gL528_2 hW593 hF601 hP602 ((e595)) ((e596)) ((e597)) (((hF594.1 31 rfl).trans ((hF536.1 31 rfl).trans (e523)))) (((hF594.1 15 rfl).trans ((hF536.1 15 rfl).trans ((hF521.1 15 rfl).trans ((hF504.1 15 rfl).trans (e_op0)))))) (((hF594.1 19 rfl).trans (e538))) (((hF594.1 28 rfl).trans (e539))) (((hF594.1 9 rfl).trans ((hF536.1 9 rfl).trans ((hF521.1 9 rfl).trans ((hF504.1 9 rfl).trans (e_ln)))))) (((hF594.1 29 rfl).trans ((hF536.1 29 rfl).trans ((hF521.1 29 rfl).trans ((hF504.1 29 rfl).trans (e_vi)))))) (by omega) (by omega) (by omega) (by omega) (by omega) (by omega) (by omega) (by omega) (by omega)
        · have _q : True := trivial
          exfalso
          omega
    · have _q := h516
      refine jx_ld (pc' := 47) (l' := [(0, .ref 66), (1, .int (i32 (lv)))]) (st' := [.ref 66]) rfl (jl_aloadn rfl) ?_
      refine jx_ar (pc' := 48) (st' := [.int (i32 (1)), .ref 66]) rfl rfl rfl rfl ?_
      refine jx_ld (pc' := 49) (l' := [(0, .ref 66), (1, .int (i32 (lv)))]) (st' := [.ref 66, .int (i32 (1)), .ref 66]) rfl (jl_aloadn rfl) ?_
      have b612 : (-3000 : Int) ≤ G499 12 ∧ G499 12 ≤ 3002 := hW503.1 12
      refine jr_get (pc' := 52) (i := 12) (v := .int (i32 (G499 12))) rfl rfl (by decide) rfl rfl ?_
      refine jx_vr (pc' := 55) (as := [.int (i32 (1)), .int (i32 (G499 12))]) (st := []) rfl rfl rfl rfl ⟨rfl, rfl, Nat.le_of_ble_eq_true rfl⟩ rfl rfl (c_fail (dd := d) (hd := by omega) (hW := hW503) (kind := 1) (place := G499 12) (fk := fk) (e_fk := show G499 16 = fk from ((hF504.1 16 rfl).trans (e_fk)))  (h_kind := ⟨(by decide), (by decide)⟩) (h_place := ⟨(Int.le_trans (by decide : (-2147483648 : Int) ≤ -3000) b612.1), (Int.le_trans b612.2 (by decide : (3002 : Int) ≤ 2147483647))⟩)  (p_0 := by omega) (p_1 := by omega)) (fun o V' hq => ?_)
      obtain ⟨G613, A614, fk2_615, rfl, rfl, hW616, hF617, e618, p619, -⟩ := hq
      have hF621 := Fr_tr hF511 hF617 (Fr_sub (by decide)) (Fr_sub (by decide))
      have hP622 := Pf_f hP512 hF617 (by decide)
      have bfk2_615 : (0 : Int) ≤ fk2_615 ∧ fk2_615 ≤ 6 := e618 ▸ hW616.1 16
      refine .inl ⟨rfl, ?_⟩
      refine jx_ar (pc' := 56) (st' := [.int (i32 (0))]) rfl rfl rfl rfl ?_
      refine jx_rt (v := some (.int (i32 (0)))) rfl rfl rfl rfl rfl rfl ?_
      exact ⟨_, _, _, ln, at2_501, fk2_615, nd, sy, na, vi, A 3 (ln).toNat, rfl, rfl, hW616, hF621, hP622, by omega, ((hF617.1 9 rfl).trans ((hF504.1 9 rfl).trans (e_ln))), ((hF617.1 10 rfl).trans (e505)), (e618), ((hF617.1 31 rfl).trans ((hF504.1 31 rfl).trans (e_nd))), ((hF617.1 19 rfl).trans ((hF504.1 19 rfl).trans (e_sy))), ((hF617.1 28 rfl).trans ((hF504.1 28 rfl).trans (e_na))), ((hF617.1 29 rfl).trans ((hF504.1 29 rfl).trans (e_vi))), (congrFun ((hF617.2 3 rfl).trans (hF504.2 3 rfl)) _), by omega, by omega, by omega, by omega, by omega, by omega, by omega, by omega, by omega, by omega, by first | exact Or.inl (⟨by omega, by omega⟩) | exact Or.inr ((⟨by omega, by omega, by omega, by omega, by omega, by omega, by omega⟩))⟩
  · have _q := h514
    refine jx_ld (pc' := 12) (l' := [(0, .ref 66), (1, .int (i32 (lv)))]) (st' := [.ref 66]) rfl (jl_aloadn rfl) ?_
    refine jx_ar (pc' := 14) (st' := [.int (i32 (26)), .ref 66]) rfl rfl rfl rfl ?_
    refine jx_ar (pc' := 15) (st' := [.int (i32 (0)), .int (i32 (26)), .ref 66]) rfl rfl rfl rfl ?_
    refine jx_ar (pc' := 16) (st' := [.int (i32 (0)), .int (i32 (0)), .int (i32 (26)), .ref 66]) rfl rfl rfl rfl ?_
    refine jx_ar (pc' := 17) (st' := [.int (i32 (0)), .int (i32 (0)), .int (i32 (0)), .int (i32 (26)), .ref 66]) rfl rfl rfl rfl ?_
    refine jx_ar (pc' := 18) (st' := [.int (i32 (0)), .int (i32 (0)), .int (i32 (0)), .int (i32 (0)), .int (i32 (26)), .ref 66]) rfl rfl rfl rfl ?_
    refine jx_vr (pc' := 21) (as := [.int (i32 (26)), .int (i32 (0)), .int (i32 (0)), .int (i32 (0)), .int (i32 (0))]) (st := []) rfl rfl rfl rfl ⟨rfl, rfl, Nat.le_of_ble_eq_true rfl⟩ rfl rfl (c_node (dd := d) (hd := by omega) (hW := hW503) (kind := 26) (a := 0) (b := 0) (c := 0) (e := 0) (nd := nd) (e_nd := show G499 31 = nd from ((hF504.1 31 rfl).trans (e_nd)))  (h_kind := ⟨(by decide), (by decide)⟩) (h_a := ⟨(by decide), (by decide)⟩) (h_b := ⟨(by decide), (by decide)⟩) (h_c := ⟨(by decide), (by decide)⟩) (h_e := ⟨(by decide), (by decide)⟩)  (p_0 := by omega) (p_1 := by omega)) (fun o V' hq => ?_)
    obtain ⟨G623, A624, nd2_625, rfl, rfl, hW626, hF627, hQ628, e629, p630, -⟩ := hq
    have hF632 := Fr_tr hF511 hF627 (Fr_sub (by decide)) (Fr_sub (by decide))
    have hP633 := Pf_tr hP512 hQ628 (by omega)
    have bnd2_625 : (0 : Int) ≤ nd2_625 ∧ nd2_625 ≤ 6999 := e629 ▸ hW626.1 31
    refine .inr ⟨_, rfl, ?_⟩
    refine jx_ld (pc' := 22) (l' := jSto1 [(0, .ref 66), (1, .int (i32 (lv)))] 2 (.int (i32 (nd)))) (st' := []) rfl rfl ?_
    obtain ⟨L634, eL634⟩ : ∃ q, q = jSto1 [(0, .ref 66), (1, .int (i32 (lv)))] 2 (.int (i32 (nd))) := ⟨_, rfl⟩
    rw [← eL634]
    have gL634_0 : jGet L634 0 = some (.ref 66) := eL634 ▸ jg_ne (by decide) (rfl : jGet [(0, .ref 66), (1, .int (i32 (lv)))] 0 = some (.ref 66)) rfl
    have gL634_1 : jGet L634 1 = some (.int (i32 (lv))) := eL634 ▸ jg_ne (by decide) (rfl : jGet [(0, .ref 66), (1, .int (i32 (lv)))] 1 = some (.int (i32 (lv)))) rfl
    have gL634_2 : jGet L634 2 = some (.int (i32 (nd))) := eL634 ▸ jg_eq
    refine jx_ld (pc' := 23) (l' := L634) (st' := [.ref 66]) rfl (jl_aloadn gL634_0) ?_
    refine jx_vr (pc' := 26) (as := []) (st := []) rfl rfl rfl rfl ⟨rfl, rfl, Nat.le_of_ble_eq_true rfl⟩ rfl rfl (c_endLine (dd := d) (hd := by omega) (hW := hW626)  (ln := ln) (e_ln := show G623 9 = ln from ((hF627.1 9 rfl).trans ((hF504.1 9 rfl).trans (e_ln)))) (li := li) (e_li := show G623 3 = li from ((hF627.1 3 rfl).trans ((hF504.1 3 rfl).trans (e_li)))) (fk := fk) (e_fk := show G623 16 = fk from ((hF627.1 16 rfl).trans ((hF504.1 16 rfl).trans (e_fk)))) (tk0 := tk2_502) (e_tk0 := show G623 11 = tk2_502 from ((hF627.1 11 rfl).trans (e506)))    (p_0 := by omega)) (fun o V' hq => ?_)
    obtain ⟨G635, A636, ln2_637, fk2_638, rfl, rfl, hW639, hF640, e641, e642, q643⟩ := hq
    have hF644 := Fr_tr hF632 hF640 (Fr_sub (by decide)) (Fr_sub (by decide))
    have hP645 := Pf_f hP633 hF640 (by decide)
    have bln2_637 : (0 : Int) ≤ ln2_637 ∧ ln2_637 ≤ 3000 := e641 ▸ hW639.1 9
    have bfk2_638 : (0 : Int) ≤ fk2_638 ∧ fk2_638 ≤ 6 := e642 ▸ hW639.1 16
    refine .inl ⟨rfl, ?_⟩
    rcases q643 with ⟨a646, a647, a648, a649, a650⟩ | ⟨a651, a652⟩
    · have _q : True := trivial
      have b653 : (0 : Int) ≤ A 3 (ln2_637).toNat ∧ A 3 (ln2_637).toNat ≤ 3000 := hW.2 3 _
      have lt654 : ln2_637 < li → le < A 3 (ln2_637).toNat := fun hh => LT_nx (LT_ext (((hF640.1 3 rfl).trans ((hF627.1 3 rfl).trans (hF504.1 3 rfl)))) (((hF640.2 3 rfl).trans ((hF627.2 3 rfl).trans (hF504.2 3 rfl)))) (((hF640.2 4 rfl).trans ((hF627.2 4 rfl).trans (hF504.2 4 rfl)))) i_LT) (show G635 3 = li from ((hF640.1 3 rfl).trans ((hF627.1 3 rfl).trans ((hF504.1 3 rfl).trans (e_li))))) (show A636 4 (ln).toNat = le from (congrFun ((hF640.2 4 rfl).trans ((hF627.2 4 rfl).trans (hF504.2 4 rfl))) _).trans (e_le)) (show A636 3 (ln2_637).toNat = A 3 (ln2_637).toNat from (congrFun ((hF640.2 3 rfl).trans ((hF627.2 3 rfl).trans (hF504.2 3 rfl))) _)) (show ln2_637 = ln + 1 by omega) (by omega) hh
      refine jx_ld (pc' := 27) (l' := L634) (st' := [.ref 66]) rfl (jl_aloadn gL634_0) ?_
      refine jx_ld (pc' := 28) (l' := L634) (st' := [.int (i32 (nd)), .ref 66]) rfl (jl_iloadn gL634_2) ?_
      refine jx_ld (pc' := 29) (l' := L634) (st' := [.int (i32 (lv)), .int (i32 (nd)), .ref 66]) rfl (jl_iloadn gL634_1) ?_
      refine jx_ar (pc' := 30) (st' := [.int (i32 (0)), .int (i32 (lv)), .int (i32 (nd)), .ref 66]) rfl rfl rfl rfl ?_
      refine jx_hp (pc' := 33) (st' := [.int (i32 (100000)), .int (i32 (0)), .int (i32 (lv)), .int (i32 (nd)), .ref 66]) rfl rfl rfl rfl rfl rfl ?_
      refine jx_vr (pc' := 36) (as := [.int (i32 (nd)), .int (i32 (lv)), .int (i32 (0)), .int (i32 (100000))]) (st := []) rfl rfl rfl rfl ⟨rfl, rfl, Nat.le_of_ble_eq_true rfl⟩ rfl rfl (c_readChildren (dd := d) (hP := hP) (zz := nd) (hd := by omega) (hW := hW639) (n := nd) (lv := lv) (least := 0) (mo := 100000) (ln := ln2_637) (e_ln := show G635 9 = ln2_637 from (e641)) (li := li) (e_li := show G635 3 = li from ((hF640.1 3 rfl).trans ((hF627.1 3 rfl).trans ((hF504.1 3 rfl).trans (e_li))))) (at0 := at2_501) (e_at0 := show G635 10 = at2_501 from ((hF640.1 10 rfl).trans ((hF627.1 10 rfl).trans (e505)))) (fk := fk2_638) (e_fk := show G635 16 = fk2_638 from (e642)) (nd := nd2_625) (e_nd := show G635 31 = nd2_625 from ((hF640.1 31 rfl).trans (e629))) (sy := sy) (e_sy := show G635 19 = sy from ((hF640.1 19 rfl).trans ((hF627.1 19 rfl).trans ((hF504.1 19 rfl).trans (e_sy))))) (na := na) (e_na := show G635 28 = na from ((hF640.1 28 rfl).trans ((hF627.1 28 rfl).trans ((hF504.1 28 rfl).trans (e_na))))) (vi := vi) (e_vi := show G635 29 = vi from ((hF640.1 29 rfl).trans ((hF627.1 29 rfl).trans ((hF504.1 29 rfl).trans (e_vi))))) (lf := A 3 (ln2_637).toNat) (e_lf := show A636 3 (ln2_637).toNat = A 3 (ln2_637).toNat from (congrFun ((hF640.2 3 rfl).trans ((hF627.2 3 rfl).trans (hF504.2 3 rfl))) _)) (i_LT := (LT_ext (((hF640.1 3 rfl).trans ((hF627.1 3 rfl).trans (hF504.1 3 rfl)))) (((hF640.2 3 rfl).trans ((hF627.2 3 rfl).trans (hF504.2 3 rfl)))) (((hF640.2 4 rfl).trans ((hF627.2 4 rfl).trans (hF504.2 4 rfl)))) i_LT)) (h_n := ⟨(Int.le_trans (by decide : (-2147483648 : Int) ≤ 0) b_nd.1), (Int.le_trans b_nd.2 (by decide : (6999 : Int) ≤ 2147483647))⟩) (h_lv := ⟨(Int.le_trans (by decide : (-2147483648 : Int) ≤ -2147483648) h_lv.1), (Int.le_trans h_lv.2 (by decide : (2147483647 : Int) ≤ 2147483647))⟩) (h_least := ⟨(by decide), (by decide)⟩) (h_mo := ⟨(by decide), (by decide)⟩)  (p_0 := by omega) (p_1 := by omega) (p_2 := by omega) (p_3 := by omega) (p_4 := by omega) (p_5 := by omega) (p_6 := by omega) (p_7 := by omega) (p_8 := by omega) (p_9 := by omega) (p_10 := by omega) (p_11 := by omega) (p_12 := by omega)) (fun o V' hq => ?_)
      obtain ⟨G655, A656, ln2_657, at2_658, fk2_659, nd2_660, sy2_661, na2_662, vi2_663, lf2_664, rfl, rfl, hW665, hF666, hQ667, e668, e669, e670, e671, e672, e673, e674, e675, p676, p677, p678, p679, p680, p681, p682, q683⟩ := hq
      have hF684 := Fr_tr hF644 hF666 (Fr_sub (by decide)) (Fr_sub (by decide))
      have hP685 := Pf_tr hP645 hQ667 (by omega)
      have bln2_657 : (0 : Int) ≤ ln2_657 ∧ ln2_657 ≤ 3000 := e668 ▸ hW665.1 9
      have bat2_658 : (0 : Int) ≤ at2_658 ∧ at2_658 ≤ 3002 := e669 ▸ hW665.1 10
      have bfk2_659 : (0 : Int) ≤ fk2_659 ∧ fk2_659 ≤ 6 := e670 ▸ hW665.1 16
      have bnd2_660 : (0 : Int) ≤ nd2_660 ∧ nd2_660 ≤ 6999 := e671 ▸ hW665.1 31
      have bsy2_661 : (0 : Int) ≤ sy2_661 ∧ sy2_661 ≤ 202 := e672 ▸ hW665.1 19
      have bna2_662 : (0 : Int) ≤ na2_662 ∧ na2_662 ≤ 200 := e673 ▸ hW665.1 28
      have bvi2_663 : (0 : Int) ≤ vi2_663 ∧ vi2_663 ≤ 202 := e674 ▸ hW665.1 29
      have blf2_664 : (0 : Int) ≤ lf2_664 ∧ lf2_664 ≤ 3000 := e675 ▸ hW665.2 3 _
      refine .inl ⟨rfl, ?_⟩
      rcases q683 with ⟨a686, a687⟩ | ⟨a688, a689, a690⟩
      · have _q : True := trivial
        refine jx_ld (pc' := 37) (l' := L634) (st' := [.int (i32 (nd))]) rfl (jl_iloadn gL634_2) ?_
        refine jx_rt (v := some (.int (i32 (nd)))) rfl rfl rfl rfl rfl rfl ?_
        exact ⟨_, _, _, ln2_657, at2_658, fk2_659, nd2_660, sy2_661, na2_662, vi2_663, lf2_664, rfl, rfl, hW665, hF684, hP685, by omega, (e668), (e669), (e670), (e671), (e672), (e673), (e674), (e675), by omega, by omega, by omega, by omega, by omega, by omega, by omega, by omega, by omega, by omega, by first | exact Or.inl (⟨by omega, by omega⟩) | exact Or.inr ((⟨by omega, by omega, by omega, by omega, by omega, by omega, by omega⟩))⟩
      · have _q : True := trivial
        refine jx_ld (pc' := 37) (l' := L634) (st' := [.int (i32 (nd))]) rfl (jl_iloadn gL634_2) ?_
        refine jx_rt (v := some (.int (i32 (nd)))) rfl rfl rfl rfl rfl rfl ?_
        exact ⟨_, _, _, ln2_657, at2_658, fk2_659, nd2_660, sy2_661, na2_662, vi2_663, lf2_664, rfl, rfl, hW665, hF684, hP685, by omega, (e668), (e669), (e670), (e671), (e672), (e673), (e674), (e675), by omega, by omega, by omega, by omega, by omega, by omega, by omega, by omega, by omega, by omega, by first | exact Or.inl (⟨by omega, by omega⟩) | exact Or.inr ((⟨by omega, by omega, by omega, by omega, by omega, by omega, by omega⟩))⟩
    · have _q : True := trivial
      refine jx_ld (pc' := 27) (l' := L634) (st' := [.ref 66]) rfl (jl_aloadn gL634_0) ?_
      refine jx_ld (pc' := 28) (l' := L634) (st' := [.int (i32 (nd)), .ref 66]) rfl (jl_iloadn gL634_2) ?_
      refine jx_ld (pc' := 29) (l' := L634) (st' := [.int (i32 (lv)), .int (i32 (nd)), .ref 66]) rfl (jl_iloadn gL634_1) ?_
      refine jx_ar (pc' := 30) (st' := [.int (i32 (0)), .int (i32 (lv)), .int (i32 (nd)), .ref 66]) rfl rfl rfl rfl ?_
      refine jx_hp (pc' := 33) (st' := [.int (i32 (100000)), .int (i32 (0)), .int (i32 (lv)), .int (i32 (nd)), .ref 66]) rfl rfl rfl rfl rfl rfl ?_
      refine jx_vr (pc' := 36) (as := [.int (i32 (nd)), .int (i32 (lv)), .int (i32 (0)), .int (i32 (100000))]) (st := []) rfl rfl rfl rfl ⟨rfl, rfl, Nat.le_of_ble_eq_true rfl⟩ rfl rfl (c_readChildren_f (dd := d) (zz := nd) (hd := by omega) (hW := hW639) (n := nd) (lv := lv) (least := 0) (mo := 100000) (fk := fk2_638) (e_fk := show G635 16 = fk2_638 from (e642))  (h_n := ⟨(Int.le_trans (by decide : (-2147483648 : Int) ≤ 0) b_nd.1), (Int.le_trans b_nd.2 (by decide : (6999 : Int) ≤ 2147483647))⟩) (h_lv := ⟨(Int.le_trans (by decide : (-2147483648 : Int) ≤ -2147483648) h_lv.1), (Int.le_trans h_lv.2 (by decide : (2147483647 : Int) ≤ 2147483647))⟩) (h_least := ⟨(by decide), (by decide)⟩) (h_mo := ⟨(by decide), (by decide)⟩)  (p_0 := by omega) (p_1 := by omega) (p_2 := by omega) (p_3 := by omega)) (fun o V' hq => ?_)
      obtain ⟨G691, A692, fk2_693, rfl, rfl, hW694, hF695, hQ696, e697, p698, -⟩ := hq
      have hF700 := Fr_tr hF644 hF695 (Fr_sub (by decide)) (Fr_sub (by decide))
      have hP701 := Pf_tr hP645 hQ696 (by omega)
      have bfk2_693 : (0 : Int) ≤ fk2_693 ∧ fk2_693 ≤ 6 := e697 ▸ hW694.1 16
      refine .inl ⟨rfl, ?_⟩
      refine jx_ld (pc' := 37) (l' := L634) (st' := [.int (i32 (nd))]) rfl (jl_iloadn gL634_2) ?_
      refine jx_rt (v := some (.int (i32 (nd)))) rfl rfl rfl rfl rfl rfl ?_
      exact ⟨_, _, _, ln2_637, at2_501, fk2_693, nd2_625, sy, na, vi, A 3 (ln2_637).toNat, rfl, rfl, hW694, hF700, hP701, by omega, ((hF695.1 9 rfl).trans (e641)), ((hF695.1 10 rfl).trans ((hF640.1 10 rfl).trans ((hF627.1 10 rfl).trans (e505)))), (e697), ((hF695.1 31 rfl).trans ((hF640.1 31 rfl).trans (e629))), ((hF695.1 19 rfl).trans ((hF640.1 19 rfl).trans ((hF627.1 19 rfl).trans ((hF504.1 19 rfl).trans (e_sy))))), ((hF695.1 28 rfl).trans ((hF640.1 28 rfl).trans ((hF627.1 28 rfl).trans ((hF504.1 28 rfl).trans (e_na))))), ((hF695.1 29 rfl).trans ((hF640.1 29 rfl).trans ((hF627.1 29 rfl).trans ((hF504.1 29 rfl).trans (e_vi))))), (congrFun ((hF695.2 3 rfl).trans ((hF640.2 3 rfl).trans ((hF627.2 3 rfl).trans (hF504.2 3 rfl)))) _), by omega, by omega, by omega, by omega, by omega, by omega, by omega, by omega, by omega, by omega, by first | exact Or.inl (⟨by omega, by omega⟩) | exact Or.inr ((⟨by omega, by omega, by omega, by omega, by omega, by omega, by omega⟩))⟩
set_option maxRecDepth 20000 in
set_option maxHeartbeats 4000000 in
theorem c_readPar {X : jX} {k : Nat} (hP : RP X k) {dd : Nat} {c0 c1 : jC} {G : Nat → Int} {A : Nat → Nat → Int} {T : jH} {lv : Int} {ln li at0 fk nd sy na vi le op0 tk0 : Int} (hd : 8 * k + 82 ≤ dd) (hW : Wk G A) (e_ln : G 9 = ln) (e_li : G 3 = li) (e_at0 : G 10 = at0) (e_fk : G 16 = fk) (e_nd : G 31 = nd) (e_sy : G 19 = sy) (e_na : G 28 = na) (e_vi : G 29 = vi) (e_le : A 4 (ln).toNat = le) (e_op0 : G 15 = op0) (e_tk0 : G 11 = tk0) (i_LT : LT G A) (h_lv : (-2147483648 : Int) ≤ lv ∧ lv ≤ 2147483647) (p_0 : 0 ≤ lv ∧ lv ≤ 15) (p_1 : 18 - lv ≤ ((k + 1 : Nat) : Int)) (p_2 : fk = 0) (p_3 : ln < li) (p_4 : at0 ≤ le) (p_5 : op0 = 0) (p_6 : nd ≤ 2 * at0 - tz tk0 + 30) (p_7 : sy ≤ na + 2) (p_8 : vi ≤ sy) (p_9 : 1 ≤ tk0) : wk X dd 299 [.ref 66, .int (i32 lv)] (rV c0 c1 G A T) (fun o V' => ∃ (G' : Nat → Int) (A' : Nat → Nat → Int) (r : Int) (ln2 : Int) (at2 : Int) (fk2 : Int) (nd2 : Int) (sy2 : Int) (na2 : Int) (vi2 : Int) (lf2 : Int), V' = rV c0 c1 G' A' T ∧ o = .inl (some (.int (i32 r))) ∧ Wk G' A' ∧ Fr [9, 10, 11, 12, 13, 14, 15, 16, 17, 18, 19, 28, 29, 31] [6, 7, 8, 9, 10, 11, 12, 14, 15, 16, 17, 18, 19, 20, 21, 22, 23, 24, 28] G A G' A' ∧ Pf nd A A' ∧ ((-2147483648 : Int) ≤ r ∧ r ≤ 2147483647) ∧ G' 9 = ln2 ∧ G' 10 = at2 ∧ G' 16 = fk2 ∧ G' 31 = nd2 ∧ G' 19 = sy2 ∧ G' 28 = na2 ∧ G' 29 = vi2 ∧ A' 3 (ln2).toNat = lf2 ∧ (at0 ≤ at2) ∧ (nd ≤ nd2) ∧ (sy ≤ sy2) ∧ (sy2 ≤ na2 + 2) ∧ (vi ≤ vi2) ∧ (vi2 ≤ vi + 1) ∧ (0 ≤ r) ∧ (r ≤ 6999) ∧ (ln ≤ ln2) ∧ (ln2 ≤ li) ∧ (((1 ≤ fk2) ∧ (nd2 - nd ≤ 2 * at2 - (2 * at0 - tz tk0) + 14)) ∨ ((fk2 = 0) ∧ (vi2 = vi) ∧ (ln < ln2) ∧ (nd2 - nd ≤ 2 * at2 - (2 * at0 - tz tk0)) ∧ (at2 < lf2 ∨ li ≤ ln2) ∧ (nd ≤ r) ∧ (r < nd2)))) := by
  obtain ⟨d, rfl⟩ : ∃ d, dd = d + 1 := ⟨dd - 1, by omega⟩
  refine wk_of (e := jm299) rfl (Nat.le_of_ble_eq_true rfl) ?_
  show wj X d jm299 (0, [(0, .ref 66), (1, .int (i32 (lv)))], [], rV c0 c1 G A T) _
  have hF0 : Fr [9, 10, 11, 12, 13, 14, 15, 16, 17, 18, 19, 28, 29, 31] [6, 7, 8, 9, 10, 11, 12, 14, 15, 16, 17, 18, 19, 20, 21, 22, 23, 24, 28] G A G A := Fr_rf
  have hP0 : Pf nd A A := Pf_rf
  have b_ln : (0 : Int) ≤ ln ∧ ln ≤ 3000 := e_ln ▸ hW.1 9
  have b_li : (0 : Int) ≤ li ∧ li ≤ 3000 := e_li ▸ hW.1 3
  have b_at0 : (0 : Int) ≤ at0 ∧ at0 ≤ 3002 := e_at0 ▸ hW.1 10
  have b_fk : (0 : Int) ≤ fk ∧ fk ≤ 6 := e_fk ▸ hW.1 16
  have b_nd : (0 : Int) ≤ nd ∧ nd ≤ 6999 := e_nd ▸ hW.1 31
  have b_sy : (0 : Int) ≤ sy ∧ sy ≤ 202 := e_sy ▸ hW.1 19
  have b_na : (0 : Int) ≤ na ∧ na ≤ 200 := e_na ▸ hW.1 28
  have b_vi : (0 : Int) ≤ vi ∧ vi ≤ 202 := e_vi ▸ hW.1 29
  have b_le : (0 : Int) ≤ le ∧ le ≤ 3000 := e_le ▸ hW.2 4 _
  have b_op0 : (-2147483648 : Int) ≤ op0 ∧ op0 ≤ 2147483647 := e_op0 ▸ hW.1 15
  have z_tk0 := tz_f tk0
  have b_tk0 : (0 : Int) ≤ tk0 ∧ tk0 ≤ 5 := e_tk0 ▸ hW.1 11
  have at_132 : ∀ (L : jL) (Gx : Nat → Int) (Ax : Nat → Nat → Int) (n at1 tk1 fk1 nd1 op1 sy1 na1 sa1 : Int), jGet L 0 = some (.ref 66) → jGet L 1 = some (.int (i32 (lv))) → jGet L 2 = some (.int (i32 n)) → Wk Gx Ax → Fr [9, 10, 11, 12, 13, 14, 15, 16, 17, 18, 19, 28, 29, 31] [6, 7, 8, 9, 10, 11, 12, 14, 15, 16, 17, 18, 19, 20, 21, 22, 23, 24, 28] G A Gx Ax → Pf nd A Ax → Gx 10 = at1 → Gx 11 = tk1 → Gx 16 = fk1 → Gx 31 = nd1 → Gx 15 = op1 → Gx 19 = sy1 → Gx 28 = na1 → Ax 17 (n).toNat = sa1 → Gx 9 = ln → Gx 29 = vi → ((-2147483648 : Int) ≤ n ∧ n ≤ 2147483647) → (fk1 = 0) → (at0 ≤ at1) → (at1 ≤ le) → (nd ≤ n ∧ n ≤ 6998 ∧ n < nd1) → (sy ≤ sy1) → (sy1 ≤ na1 + 2) → (op1 = 0) → (0 ≤ sa1 ∧ sa1 ≤ 201) → (vi < sy1) → (nd1 - nd ≤ (2 * at1 - tz tk1) - (2 * at0 - tz tk0)) → wj X d jm299 (132, L, [], rV c0 c1 Gx Ax T) (fun o V' => ∃ (G' : Nat → Int) (A' : Nat → Nat → Int) (r : Int) (ln2 : Int) (at2 : Int) (fk2 : Int) (nd2 : Int) (sy2 : Int) (na2 : Int) (vi2 : Int) (lf2 : Int), V' = rV c0 c1 G' A' T ∧ o = .inl (some (.int (i32 r))) ∧ Wk G' A' ∧ Fr [9, 10, 11, 12, 13, 14, 15, 16, 17, 18, 19, 28, 29, 31] [6, 7, 8, 9, 10, 11, 12, 14, 15, 16, 17, 18, 19, 20, 21, 22, 23, 24, 28] G A G' A' ∧ Pf nd A A' ∧ ((-2147483648 : Int) ≤ r ∧ r ≤ 2147483647) ∧ G' 9 = ln2 ∧ G' 10 = at2 ∧ G' 16 = fk2 ∧ G' 31 = nd2 ∧ G' 19 = sy2 ∧ G' 28 = na2 ∧ G' 29 = vi2 ∧ A' 3 (ln2).toNat = lf2 ∧ (at0 ≤ at2) ∧ (nd ≤ nd2) ∧ (sy ≤ sy2) ∧ (sy2 ≤ na2 + 2) ∧ (vi ≤ vi2) ∧ (vi2 ≤ vi + 1) ∧ (0 ≤ r) ∧ (r ≤ 6999) ∧ (ln ≤ ln2) ∧ (ln2 ≤ li) ∧ (((1 ≤ fk2) ∧ (nd2 - nd ≤ 2 * at2 - (2 * at0 - tz tk0) + 14)) ∨ ((fk2 = 0) ∧ (vi2 = vi) ∧ (ln < ln2) ∧ (nd2 - nd ≤ 2 * at2 - (2 * at0 - tz tk0)) ∧ (at2 < lf2 ∨ li ≤ ln2) ∧ (nd ≤ r) ∧ (r < nd2)))) := by
    intro L Gx Ax n at1 tk1 fk1 nd1 op1 sy1 na1 sa1 gL_0 gL_1 gL_2 hWx hFx hPx ex_at1 ex_tk1 ex_fk1 ex_nd1 ex_op1 ex_sy1 ex_na1 ex_sa1 fx_9 fx_29 rx_n iv_0 iv_1 iv_2 iv_3 iv_4 iv_5 iv_6 iv_7 iv_8 iv_9
    have b_at1 : (0 : Int) ≤ at1 ∧ at1 ≤ 3002 := ex_at1 ▸ hWx.1 10
    have z_tk1 := tz_f tk1
    have b_tk1 : (0 : Int) ≤ tk1 ∧ tk1 ≤ 5 := ex_tk1 ▸ hWx.1 11
    have b_fk1 : (0 : Int) ≤ fk1 ∧ fk1 ≤ 6 := ex_fk1 ▸ hWx.1 16
    have b_nd1 : (0 : Int) ≤ nd1 ∧ nd1 ≤ 6999 := ex_nd1 ▸ hWx.1 31
    have b_op1 : (-2147483648 : Int) ≤ op1 ∧ op1 ≤ 2147483647 := ex_op1 ▸ hWx.1 15
    have b_sy1 : (0 : Int) ≤ sy1 ∧ sy1 ≤ 202 := ex_sy1 ▸ hWx.1 19
    have b_na1 : (0 : Int) ≤ na1 ∧ na1 ≤ 200 := ex_na1 ▸ hWx.1 28
    refine jx_ld (pc' := 133) (l' := L) (st' := [.ref 66]) rfl (jl_aloadn gL_0) ?_
    refine jx_vr (pc' := 136) (as := []) (st := []) rfl rfl rfl rfl ⟨rfl, rfl, Nat.le_of_ble_eq_true rfl⟩ rfl rfl (c_endLine (dd := d) (hd := by omega) (hW := hWx)  (ln := ln) (e_ln := show Gx 9 = ln from (fx_9)) (li := li) (e_li := show Gx 3 = li from ((hFx.1 3 rfl).trans (e_li))) (fk := fk1) (e_fk := show Gx 16 = fk1 from (ex_fk1)) (tk0 := tk1) (e_tk0 := show Gx 11 = tk1 from (ex_tk1))    (p_0 := by omega)) (fun o V' hq => ?_)
    obtain ⟨G1, A2, ln2_3, fk2_4, rfl, rfl, hW5, hF6, e7, e8, q9⟩ := hq
    have hF10 := Fr_tr hFx hF6 (Fr_sub (by decide)) (Fr_sub (by decide))
    have hP11 := Pf_f hPx hF6 (by decide)
    have bln2_3 : (0 : Int) ≤ ln2_3 ∧ ln2_3 ≤ 3000 := e7 ▸ hW5.1 9
    have bfk2_4 : (0 : Int) ≤ fk2_4 ∧ fk2_4 ≤ 6 := e8 ▸ hW5.1 16
    refine .inl ⟨rfl, ?_⟩
    rcases q9 with ⟨a12, a13, a14, a15, a16⟩ | ⟨a17, a18⟩
    · have _q : True := trivial
      have b19 : (0 : Int) ≤ A 3 (ln2_3).toNat ∧ A 3 (ln2_3).toNat ≤ 3000 := hW.2 3 _
      have lt20 : ln2_3 < li → le < A 3 (ln2_3).toNat := fun hh => LT_nx (LT_ext (((hF6.1 3 rfl).trans (hFx.1 3 rfl))) (((hF6.2 3 rfl).trans (hFx.2 3 rfl))) (((hF6.2 4 rfl).trans (hFx.2 4 rfl))) i_LT) (show G1 3 = li from ((hF6.1 3 rfl).trans ((hFx.1 3 rfl).trans (e_li)))) (show A2 4 (ln).toNat = le from (congrFun ((hF6.2 4 rfl).trans (hFx.2 4 rfl)) _).trans (e_le)) (show A2 3 (ln2_3).toNat = A 3 (ln2_3).toNat from (congrFun ((hF6.2 3 rfl).trans (hFx.2 3 rfl)) _)) (show ln2_3 = ln + 1 by omega) (by omega) hh
      refine jx_ld (pc' := 137) (l' := L) (st' := [.ref 66]) rfl (jl_aloadn gL_0) ?_
      refine jx_ld (pc' := 138) (l' := L) (st' := [.int (i32 (n)), .ref 66]) rfl (jl_iloadn gL_2) ?_
      refine jx_ld (pc' := 139) (l' := L) (st' := [.int (i32 (lv)), .int (i32 (n)), .ref 66]) rfl (jl_iloadn gL_1) ?_
      refine jx_vr (pc' := 142) (as := [.int (i32 (n)), .int (i32 (lv))]) (st := []) rfl rfl rfl rfl ⟨rfl, rfl, Nat.le_of_ble_eq_true rfl⟩ rfl rfl (c_readIndexed (dd := d) (hP := hP) (zz := nd) (hd := by omega) (hW := hW5) (n := n) (lv := lv) (ln := ln2_3) (e_ln := show G1 9 = ln2_3 from (e7)) (li := li) (e_li := show G1 3 = li from ((hF6.1 3 rfl).trans ((hFx.1 3 rfl).trans (e_li)))) (at0 := at1) (e_at0 := show G1 10 = at1 from ((hF6.1 10 rfl).trans (ex_at1))) (fk := fk2_4) (e_fk := show G1 16 = fk2_4 from (e8)) (nd := nd1) (e_nd := show G1 31 = nd1 from ((hF6.1 31 rfl).trans (ex_nd1))) (sy := sy1) (e_sy := show G1 19 = sy1 from ((hF6.1 19 rfl).trans (ex_sy1))) (na := na1) (e_na := show G1 28 = na1 from ((hF6.1 28 rfl).trans (ex_na1))) (vi := vi) (e_vi := show G1 29 = vi from ((hF6.1 29 rfl).trans (fx_29))) (lf := A 3 (ln2_3).toNat) (e_lf := show A2 3 (ln2_3).toNat = A 3 (ln2_3).toNat from (congrFun ((hF6.2 3 rfl).trans (hFx.2 3 rfl)) _)) (sa := sa1) (e_sa := show A2 17 (n).toNat = sa1 from (congrFun (hF6.2 17 rfl) _).trans (ex_sa1)) (i_LT := (LT_ext (((hF6.1 3 rfl).trans (hFx.1 3 rfl))) (((hF6.2 3 rfl).trans (hFx.2 3 rfl))) (((hF6.2 4 rfl).trans (hFx.2 4 rfl))) i_LT)) (h_n := ⟨(Int.le_trans (by decide : (-2147483648 : Int) ≤ -2147483648) rx_n.1), (Int.le_trans rx_n.2 (by decide : (2147483647 : Int) ≤ 2147483647))⟩) (h_lv := ⟨(Int.le_trans (by decide : (-2147483648 : Int) ≤ -2147483648) h_lv.1), (Int.le_trans h_lv.2 (by decide : (2147483647 : Int) ≤ 2147483647))⟩)  (p_0 := by omega) (p_1 := by omega) (p_2 := by omega) (p_3 := by omega) (p_4 := by omega) (p_5 := by omega) (p_6 := by omega) (p_7 := by omega) (p_8 := by omega) (p_9 := by omega) (p_10 := by omega) (p_11 := by omega) (p_12 := by omega)) (fun o V' hq => ?_)
      obtain ⟨G21, A22, r23, ln2_24, at2_25, fk2_26, nd2_27, sy2_28, na2_29, vi2_30, lf2_31, rfl, rfl, hW32, hF33, hQ34, b35, e36, e37, e38, e39, e40, e41, e42, e43, p44, p45, p46, p47, p48, p49, p50, p51, q52⟩ := hq
      have hF53 := Fr_tr hF10 hF33 (Fr_sub (by decide)) (Fr_sub (by decide))
      have hP54 := Pf_tr hP11 hQ34 (by omega)
      have bln2_24 : (0 : Int) ≤ ln2_24 ∧ ln2_24 ≤ 3000 := e36 ▸ hW32.1 9
      have bat2_25 : (0 : Int) ≤ at2_25 ∧ at2_25 ≤ 3002 := e37 ▸ hW32.1 10
      have bfk2_26 : (0 : Int) ≤ fk2_26 ∧ fk2_26 ≤ 6 := e38 ▸ hW32.1 16
      have bnd2_27 : (0 : Int) ≤ nd2_27 ∧ nd2_27 ≤ 6999 := e39 ▸ hW32.1 31
      have bsy2_28 : (0 : Int) ≤ sy2_28 ∧ sy2_28 ≤ 202 := e40 ▸ hW32.1 19
      have bna2_29 : (0 : Int) ≤ na2_29 ∧ na2_29 ≤ 200 := e41 ▸ hW32.1 28
      have bvi2_30 : (0 : Int) ≤ vi2_30 ∧ vi2_30 ≤ 202 := e42 ▸ hW32.1 29
      have blf2_31 : (0 : Int) ≤ lf2_31 ∧ lf2_31 ≤ 3000 := e43 ▸ hW32.2 3 _
      refine .inr ⟨_, rfl, ?_⟩
      rcases q52 with ⟨a55, a56⟩ | ⟨a57, a58, a59, a60⟩
      · have _q : True := trivial
        refine jx_rt (v := some (.int (i32 (r23)))) rfl rfl rfl rfl rfl rfl ?_
        exact ⟨_, _, _, ln2_24, at2_25, fk2_26, nd2_27, sy2_28, na2_29, vi2_30, lf2_31, rfl, rfl, hW32, hF53, hP54, by omega, (e36), (e37), (e38), (e39), (e40), (e41), (e42), (e43), by omega, by omega, by omega, by omega, by omega, by omega, by omega, by omega, by omega, by omega, by first | exact Or.inl (⟨by omega, by omega⟩) | exact Or.inr ((⟨by omega, by omega, by omega, by omega, by omega, by omega, by omega⟩))⟩
      · have _q : True := trivial
        refine jx_rt (v := some (.int (i32 (r23)))) rfl rfl rfl rfl rfl rfl ?_
        exact ⟨_, _, _, ln2_24, at2_25, fk2_26, nd2_27, sy2_28, na2_29, vi2_30, lf2_31, rfl, rfl, hW32, hF53, hP54, by omega, (e36), (e37), (e38), (e39), (e40), (e41), (e42), (e43), by omega, by omega, by omega, by omega, by omega, by omega, by omega, by omega, by omega, by omega, by first | exact Or.inl (⟨by omega, by omega⟩) | exact Or.inr ((⟨by omega, by omega, by omega, by omega, by omega, by omega, by omega⟩))⟩
    · have _q : True := trivial
      refine jx_ld (pc' := 137) (l' := L) (st' := [.ref 66]) rfl (jl_aloadn gL_0) ?_
      refine jx_ld (pc' := 138) (l' := L) (st' := [.int (i32 (n)), .ref 66]) rfl (jl_iloadn gL_2) ?_
      refine jx_ld (pc' := 139) (l' := L) (st' := [.int (i32 (lv)), .int (i32 (n)), .ref 66]) rfl (jl_iloadn gL_1) ?_
      refine jx_vr (pc' := 142) (as := [.int (i32 (n)), .int (i32 (lv))]) (st := []) rfl rfl rfl rfl ⟨rfl, rfl, Nat.le_of_ble_eq_true rfl⟩ rfl rfl (c_readIndexed_f (dd := d) (hd := by omega) (hW := hW5) (n := n) (lv := lv) (fk := fk2_4) (e_fk := show G1 16 = fk2_4 from (e8))  (h_n := ⟨(Int.le_trans (by decide : (-2147483648 : Int) ≤ -2147483648) rx_n.1), (Int.le_trans rx_n.2 (by decide : (2147483647 : Int) ≤ 2147483647))⟩) (h_lv := ⟨(Int.le_trans (by decide : (-2147483648 : Int) ≤ -2147483648) h_lv.1), (Int.le_trans h_lv.2 (by decide : (2147483647 : Int) ≤ 2147483647))⟩)  (p_0 := by omega)) (fun o V' hq => ?_)
      obtain ⟨r61, rfl, rfl, b62, p63, -⟩ := hq
      refine .inr ⟨_, rfl, ?_⟩
      refine jx_rt (v := some (.int (i32 (r61)))) rfl rfl rfl rfl rfl rfl ?_
      exact ⟨_, _, _, ln2_3, at1, fk2_4, nd1, sy1, na1, vi, A 3 (ln2_3).toNat, rfl, rfl, hW5, hF10, hP11, by omega, (e7), ((hF6.1 10 rfl).trans (ex_at1)), (e8), ((hF6.1 31 rfl).trans (ex_nd1)), ((hF6.1 19 rfl).trans (ex_sy1)), ((hF6.1 28 rfl).trans (ex_na1)), ((hF6.1 29 rfl).trans (fx_29)), (congrFun ((hF6.2 3 rfl).trans (hFx.2 3 rfl)) _), by omega, by omega, by omega, by omega, by omega, by omega, by omega, by omega, by omega, by omega, by first | exact Or.inl (⟨by omega, by omega⟩) | exact Or.inr ((⟨by omega, by omega, by omega, by omega, by omega, by omega, by omega⟩))⟩
  have at_132p : ∀ (L : jL) (Gx : Nat → Int) (Ax : Nat → Nat → Int) (n at1 tk1 fk1 nd1 op1 sy1 na1 : Int), jGet L 0 = some (.ref 66) → jGet L 1 = some (.int (i32 (lv))) → jGet L 2 = some (.int (i32 n)) → Wk Gx Ax → Fr [9, 10, 11, 12, 13, 14, 15, 16, 17, 18, 19, 28, 29, 31] [6, 7, 8, 9, 10, 11, 12, 14, 15, 16, 17, 18, 19, 20, 21, 22, 23, 24, 28] G A Gx Ax → Pf nd A Ax → Gx 10 = at1 → Gx 11 = tk1 → Gx 16 = fk1 → Gx 31 = nd1 → Gx 15 = op1 → Gx 19 = sy1 → Gx 28 = na1 → Gx 9 = ln → Gx 29 = vi → ((-2147483648 : Int) ≤ n ∧ n ≤ 2147483647) → (1 ≤ fk1) → (at0 ≤ at1) → (at1 ≤ le) → (nd ≤ n ∧ n ≤ 6998 ∧ n < nd1) → (sy ≤ sy1) → (sy1 ≤ na1 + 2) → (0 ≤ op1 ∧ op1 ≤ 9) → (nd1 - nd ≤ 2 * at1 - 2 * at0 + 8) → wj X d jm299 (132, L, [], rV c0 c1 Gx Ax T) (fun o V' => ∃ (G' : Nat → Int) (A' : Nat → Nat → Int) (r : Int) (ln2 : Int) (at2 : Int) (fk2 : Int) (nd2 : Int) (sy2 : Int) (na2 : Int) (vi2 : Int) (lf2 : Int), V' = rV c0 c1 G' A' T ∧ o = .inl (some (.int (i32 r))) ∧ Wk G' A' ∧ Fr [9, 10, 11, 12, 13, 14, 15, 16, 17, 18, 19, 28, 29, 31] [6, 7, 8, 9, 10, 11, 12, 14, 15, 16, 17, 18, 19, 20, 21, 22, 23, 24, 28] G A G' A' ∧ Pf nd A A' ∧ ((-2147483648 : Int) ≤ r ∧ r ≤ 2147483647) ∧ G' 9 = ln2 ∧ G' 10 = at2 ∧ G' 16 = fk2 ∧ G' 31 = nd2 ∧ G' 19 = sy2 ∧ G' 28 = na2 ∧ G' 29 = vi2 ∧ A' 3 (ln2).toNat = lf2 ∧ (at0 ≤ at2) ∧ (nd ≤ nd2) ∧ (sy ≤ sy2) ∧ (sy2 ≤ na2 + 2) ∧ (vi ≤ vi2) ∧ (vi2 ≤ vi + 1) ∧ (0 ≤ r) ∧ (r ≤ 6999) ∧ (ln ≤ ln2) ∧ (ln2 ≤ li) ∧ (((1 ≤ fk2) ∧ (nd2 - nd ≤ 2 * at2 - (2 * at0 - tz tk0) + 14)) ∨ ((fk2 = 0) ∧ (vi2 = vi) ∧ (ln < ln2) ∧ (nd2 - nd ≤ 2 * at2 - (2 * at0 - tz tk0)) ∧ (at2 < lf2 ∨ li ≤ ln2) ∧ (nd ≤ r) ∧ (r < nd2)))) := by
    intro L Gx Ax n at1 tk1 fk1 nd1 op1 sy1 na1 gL_0 gL_1 gL_2 hWx hFx hPx ex_at1 ex_tk1 ex_fk1 ex_nd1 ex_op1 ex_sy1 ex_na1 fx_9 fx_29 rx_n iv_0 iv_1 iv_2 iv_3 iv_4 iv_5 iv_6 iv_7
    have b_at1 : (0 : Int) ≤ at1 ∧ at1 ≤ 3002 := ex_at1 ▸ hWx.1 10
    have z_tk1 := tz_f tk1
    have b_tk1 : (0 : Int) ≤ tk1 ∧ tk1 ≤ 5 := ex_tk1 ▸ hWx.1 11
    have b_fk1 : (0 : Int) ≤ fk1 ∧ fk1 ≤ 6 := ex_fk1 ▸ hWx.1 16
    have b_nd1 : (0 : Int) ≤ nd1 ∧ nd1 ≤ 6999 := ex_nd1 ▸ hWx.1 31
    have b_op1 : (-2147483648 : Int) ≤ op1 ∧ op1 ≤ 2147483647 := ex_op1 ▸ hWx.1 15
    have b_sy1 : (0 : Int) ≤ sy1 ∧ sy1 ≤ 202 := ex_sy1 ▸ hWx.1 19
    have b_na1 : (0 : Int) ≤ na1 ∧ na1 ≤ 200 := ex_na1 ▸ hWx.1 28
    refine jx_ld (pc' := 133) (l' := L) (st' := [.ref 66]) rfl (jl_aloadn gL_0) ?_
    refine jx_vr (pc' := 136) (as := []) (st := []) rfl rfl rfl rfl ⟨rfl, rfl, Nat.le_of_ble_eq_true rfl⟩ rfl rfl (c_endLine (dd := d) (hd := by omega) (hW := hWx)  (ln := ln) (e_ln := show Gx 9 = ln from (fx_9)) (li := li) (e_li := show Gx 3 = li from ((hFx.1 3 rfl).trans (e_li))) (fk := fk1) (e_fk := show Gx 16 = fk1 from (ex_fk1)) (tk0 := tk1) (e_tk0 := show Gx 11 = tk1 from (ex_tk1))    (p_0 := by omega)) (fun o V' hq => ?_)
    obtain ⟨G65, A66, ln2_67, fk2_68, rfl, rfl, hW69, hF70, e71, e72, q73⟩ := hq
    have hF74 := Fr_tr hFx hF70 (Fr_sub (by decide)) (Fr_sub (by decide))
    have hP75 := Pf_f hPx hF70 (by decide)
    have bln2_67 : (0 : Int) ≤ ln2_67 ∧ ln2_67 ≤ 3000 := e71 ▸ hW69.1 9
    have bfk2_68 : (0 : Int) ≤ fk2_68 ∧ fk2_68 ≤ 6 := e72 ▸ hW69.1 16
    refine .inl ⟨rfl, ?_⟩
    rcases q73 with ⟨a76, a77, a78, a79, a80⟩ | ⟨a81, a82⟩
    · have _q : True := trivial
      exfalso
      omega
    · have _q : True := trivial
      refine jx_ld (pc' := 137) (l' := L) (st' := [.ref 66]) rfl (jl_aloadn gL_0) ?_
      refine jx_ld (pc' := 138) (l' := L) (st' := [.int (i32 (n)), .ref 66]) rfl (jl_iloadn gL_2) ?_
      refine jx_ld (pc' := 139) (l' := L) (st' := [.int (i32 (lv)), .int (i32 (n)), .ref 66]) rfl (jl_iloadn gL_1) ?_
      refine jx_vr (pc' := 142) (as := [.int (i32 (n)), .int (i32 (lv))]) (st := []) rfl rfl rfl rfl ⟨rfl, rfl, Nat.le_of_ble_eq_true rfl⟩ rfl rfl (c_readIndexed_f (dd := d) (hd := by omega) (hW := hW69) (n := n) (lv := lv) (fk := fk2_68) (e_fk := show G65 16 = fk2_68 from (e72))  (h_n := ⟨(Int.le_trans (by decide : (-2147483648 : Int) ≤ -2147483648) rx_n.1), (Int.le_trans rx_n.2 (by decide : (2147483647 : Int) ≤ 2147483647))⟩) (h_lv := ⟨(Int.le_trans (by decide : (-2147483648 : Int) ≤ -2147483648) h_lv.1), (Int.le_trans h_lv.2 (by decide : (2147483647 : Int) ≤ 2147483647))⟩)  (p_0 := by omega)) (fun o V' hq => ?_)
      obtain ⟨r83, rfl, rfl, b84, p85, -⟩ := hq
      refine .inr ⟨_, rfl, ?_⟩
      refine jx_rt (v := some (.int (i32 (r83)))) rfl rfl rfl rfl rfl rfl ?_
      exact ⟨_, _, _, ln2_67, at1, fk2_68, nd1, sy1, na1, vi, A 3 (ln2_67).toNat, rfl, rfl, hW69, hF74, hP75, by omega, (e71), ((hF70.1 10 rfl).trans (ex_at1)), (e72), ((hF70.1 31 rfl).trans (ex_nd1)), ((hF70.1 19 rfl).trans (ex_sy1)), ((hF70.1 28 rfl).trans (ex_na1)), ((hF70.1 29 rfl).trans (fx_29)), (congrFun ((hF70.2 3 rfl).trans (hFx.2 3 rfl)) _), by omega, by omega, by omega, by omega, by omega, by omega, by omega, by omega, by omega, by omega, by first | exact Or.inl (⟨by omega, by omega⟩) | exact Or.inr ((⟨by omega, by omega, by omega, by omega, by omega, by omega, by omega⟩))⟩
  have at_119 : ∀ (L : jL) (Gx : Nat → Int) (Ax : Nat → Nat → Int) (n at1 tk1 fk1 nd1 op1 sy1 na1 sa1 : Int), jGet L 0 = some (.ref 66) → jGet L 1 = some (.int (i32 (lv))) → jGet L 2 = some (.int (i32 n)) → Wk Gx Ax → Fr [9, 10, 11, 12, 13, 14, 15, 16, 17, 18, 19, 28, 29, 31] [6, 7, 8, 9, 10, 11, 12, 14, 15, 16, 17, 18, 19, 20, 21, 22, 23, 24, 28] G A Gx Ax → Pf nd A Ax → Gx 10 = at1 → Gx 11 = tk1 → Gx 16 = fk1 → Gx 31 = nd1 → Gx 15 = op1 → Gx 19 = sy1 → Gx 28 = na1 → Ax 17 (n).toNat = sa1 → Gx 9 = ln → Gx 29 = vi → ((-2147483648 : Int) ≤ n ∧ n ≤ 2147483647) → (fk1 = 0) → (at0 ≤ at1) → (at1 ≤ le) → (nd ≤ n ∧ n ≤ 6998 ∧ n < nd1) → (sy ≤ sy1) → (sy1 ≤ na1 + 2) → (op1 = 0) → (0 ≤ sa1 ∧ sa1 ≤ 201) → (vi < sy1) → (nd1 - nd ≤ (2 * at1 - tz tk1) - (2 * at0 - tz tk0)) → wj X d jm299 (119, L, [], rV c0 c1 Gx Ax T) (fun o V' => ∃ (G' : Nat → Int) (A' : Nat → Nat → Int) (r : Int) (ln2 : Int) (at2 : Int) (fk2 : Int) (nd2 : Int) (sy2 : Int) (na2 : Int) (vi2 : Int) (lf2 : Int), V' = rV c0 c1 G' A' T ∧ o = .inl (some (.int (i32 r))) ∧ Wk G' A' ∧ Fr [9, 10, 11, 12, 13, 14, 15, 16, 17, 18, 19, 28, 29, 31] [6, 7, 8, 9, 10, 11, 12, 14, 15, 16, 17, 18, 19, 20, 21, 22, 23, 24, 28] G A G' A' ∧ Pf nd A A' ∧ ((-2147483648 : Int) ≤ r ∧ r ≤ 2147483647) ∧ G' 9 = ln2 ∧ G' 10 = at2 ∧ G' 16 = fk2 ∧ G' 31 = nd2 ∧ G' 19 = sy2 ∧ G' 28 = na2 ∧ G' 29 = vi2 ∧ A' 3 (ln2).toNat = lf2 ∧ (at0 ≤ at2) ∧ (nd ≤ nd2) ∧ (sy ≤ sy2) ∧ (sy2 ≤ na2 + 2) ∧ (vi ≤ vi2) ∧ (vi2 ≤ vi + 1) ∧ (0 ≤ r) ∧ (r ≤ 6999) ∧ (ln ≤ ln2) ∧ (ln2 ≤ li) ∧ (((1 ≤ fk2) ∧ (nd2 - nd ≤ 2 * at2 - (2 * at0 - tz tk0) + 14)) ∨ ((fk2 = 0) ∧ (vi2 = vi) ∧ (ln < ln2) ∧ (nd2 - nd ≤ 2 * at2 - (2 * at0 - tz tk0)) ∧ (at2 < lf2 ∨ li ≤ ln2) ∧ (nd ≤ r) ∧ (r < nd2)))) := by
    intro L Gx Ax n at1 tk1 fk1 nd1 op1 sy1 na1 sa1 gL_0 gL_1 gL_2 hWx hFx hPx ex_at1 ex_tk1 ex_fk1 ex_nd1 ex_op1 ex_sy1 ex_na1 ex_sa1 fx_9 fx_29 rx_n iv_0 iv_1 iv_2 iv_3 iv_4 iv_5 iv_6 iv_7 iv_8 iv_9
    have b_at1 : (0 : Int) ≤ at1 ∧ at1 ≤ 3002 := ex_at1 ▸ hWx.1 10
    have z_tk1 := tz_f tk1
    have b_tk1 : (0 : Int) ≤ tk1 ∧ tk1 ≤ 5 := ex_tk1 ▸ hWx.1 11
    have b_fk1 : (0 : Int) ≤ fk1 ∧ fk1 ≤ 6 := ex_fk1 ▸ hWx.1 16
    have b_nd1 : (0 : Int) ≤ nd1 ∧ nd1 ≤ 6999 := ex_nd1 ▸ hWx.1 31
    have b_op1 : (-2147483648 : Int) ≤ op1 ∧ op1 ≤ 2147483647 := ex_op1 ▸ hWx.1 15
    have b_sy1 : (0 : Int) ≤ sy1 ∧ sy1 ≤ 202 := ex_sy1 ▸ hWx.1 19
    have b_na1 : (0 : Int) ≤ na1 ∧ na1 ≤ 200 := ex_na1 ▸ hWx.1 28
    refine jx_ld (pc' := 120) (l' := L) (st' := [.ref 66]) rfl (jl_aloadn gL_0) ?_
    refine jr_get (pc' := 123) (i := 37) (v := .ref 87) rfl rfl (by decide) rfl rfl ?_
    refine jx_ld (pc' := 124) (l' := L) (st' := [.int (i32 (n)), .ref 87]) rfl (jl_iloadn gL_2) ?_
    refine jx_ld (pc' := 125) (l' := L) (st' := [.ref 66, .int (i32 (n)), .ref 87]) rfl (jl_aloadn gL_0) ?_
    refine jx_ar (pc' := 126) (st' := [.int (i32 (1)), .ref 66, .int (i32 (n)), .ref 87]) rfl rfl rfl rfl ?_
    refine jx_ar (pc' := 128) (st' := [.int (i32 (8)), .int (i32 (1)), .ref 66, .int (i32 (n)), .ref 87]) rfl rfl rfl rfl ?_
    refine jx_vr (pc' := 131) (as := [.int (i32 (1)), .int (i32 (8))]) (st := [.int (i32 (n)), .ref 87]) rfl rfl rfl rfl ⟨rfl, rfl, Nat.le_of_ble_eq_true rfl⟩ rfl rfl (c_needNumber (dd := d) (hd := by omega) (hW := hWx) (lo := 1) (hi := 8) (ln := ln) (e_ln := show Gx 9 = ln from (fx_9)) (le := le) (e_le := show Ax 4 (ln).toNat = le from (congrFun (hFx.2 4 rfl) _).trans (e_le)) (at0 := at1) (e_at0 := show Gx 10 = at1 from (ex_at1)) (fk := fk1) (e_fk := show Gx 16 = fk1 from (ex_fk1)) (tk0 := tk1) (e_tk0 := show Gx 11 = tk1 from (ex_tk1))  (h_lo := ⟨(by decide), (by decide)⟩) (h_hi := ⟨(by decide), (by decide)⟩)  (p_0 := by omega)) (fun o V' hq => ?_)
    obtain ⟨G87, A88, r89, at2_90, tk2_91, fk2_92, rfl, rfl, hW93, hF94, b95, e96, e97, e98, p99, p100, q101⟩ := hq
    have hF102 := Fr_tr hFx hF94 (Fr_sub (by decide)) (Fr_sub (by decide))
    have hP103 := Pf_f hPx hF94 (by decide)
    have bat2_90 : (0 : Int) ≤ at2_90 ∧ at2_90 ≤ 3002 := e96 ▸ hW93.1 10
    have ztk2_91 := tz_b tk2_91
    have btk2_91 : (0 : Int) ≤ tk2_91 ∧ tk2_91 ≤ 5 := e97 ▸ hW93.1 11
    have bfk2_92 : (0 : Int) ≤ fk2_92 ∧ fk2_92 ≤ 6 := e98 ▸ hW93.1 16
    refine .inr ⟨_, rfl, ?_⟩
    rcases q101 with ⟨a104, a105, a106, a107⟩ | ⟨a108, a109, a110, a111, a112⟩
    · have _q : True := trivial
      refine jr_st (pc' := 132) (i := 20) (m := 7000) (z := n) (y := r89) rfl (by decide) rfl (by decide) (by omega) (by omega) rfl ?_
      have hW114 : Wk G87 (uA A88 20 (n).toNat (r89)) := Wk_a hW93 (show (-2147483648 : Int) ≤ r89 by omega) (show r89 ≤ (2147483647 : Int) by omega)
      have hF115 := Fr_a (z := r89) (k := 20) (n := (n).toNat) hF102 (by decide)
      obtain ⟨A113, eA113⟩ : ∃ q, q = uA A88 20 (n).toNat (r89) := ⟨_, rfl⟩
      rw [← eA113]
      rw [← eA113] at hW114 hF115
      have q116 : A113 20 (n).toNat = r89 := by rw [eA113]; exact uA_eq
      have hP117 : Pf nd A A113 := eA113 ▸ Pf_a hP103 (z := n) (by omega) (by omega)
      have z118 := tz_f (tk2_91)
      exact at_132p L G87 A113 (n) (at2_90) (tk2_91) (fk2_92) (nd1) (op1) (sy1) (na1) gL_0 gL_1 gL_2 hW114 hF115 hP117 ((e96)) ((e97)) ((e98)) (((hF94.1 31 rfl).trans (ex_nd1))) (((hF94.1 15 rfl).trans (ex_op1))) (((hF94.1 19 rfl).trans (ex_sy1))) (((hF94.1 28 rfl).trans (ex_na1))) (((hF94.1 9 rfl).trans (fx_9))) (((hF94.1 29 rfl).trans (fx_29))) (by omega) (by omega) (by omega) (by omega) (by omega) (by omega) (by omega) (by omega) (by omega)
    · have _q : True := trivial
      refine jr_st (pc' := 132) (i := 20) (m := 7000) (z := n) (y := r89) rfl (by decide) rfl (by decide) (by omega) (by omega) rfl ?_
      have hW120 : Wk G87 (uA A88 20 (n).toNat (r89)) := Wk_a hW93 (show (-2147483648 : Int) ≤ r89 by omega) (show r89 ≤ (2147483647 : Int) by omega)
      have hF121 := Fr_a (z := r89) (k := 20) (n := (n).toNat) hF102 (by decide)
      obtain ⟨A119, eA119⟩ : ∃ q, q = uA A88 20 (n).toNat (r89) := ⟨_, rfl⟩
      rw [← eA119]
      rw [← eA119] at hW120 hF121
      have q122 : A119 20 (n).toNat = r89 := by rw [eA119]; exact uA_eq
      have hP123 : Pf nd A A119 := eA119 ▸ Pf_a hP103 (z := n) (by omega) (by omega)
      have z124 := tz_f (tk2_91)
      exact at_132 L G87 A119 (n) (at2_90) (tk2_91) (fk2_92) (nd1) (op1) (sy1) (na1) (sa1) gL_0 gL_1 gL_2 hW120 hF121 hP123 ((e96)) ((e97)) ((e98)) (((hF94.1 31 rfl).trans (ex_nd1))) (((hF94.1 15 rfl).trans (ex_op1))) (((hF94.1 19 rfl).trans (ex_sy1))) (((hF94.1 28 rfl).trans (ex_na1))) ((congrFun (((congrFun eA119 17).trans (uA_ne (by decide))).trans (hF94.2 17 rfl)) _).trans (ex_sa1)) (((hF94.1 9 rfl).trans (fx_9))) (((hF94.1 29 rfl).trans (fx_29))) (by omega) (by omega) (by omega) (by omega) (by omega) (by omega) (by omega) (by omega) (by omega) (by omega) (by omega)
  have at_119p : ∀ (L : jL) (Gx : Nat → Int) (Ax : Nat → Nat → Int) (n at1 tk1 fk1 nd1 op1 sy1 na1 : Int), jGet L 0 = some (.ref 66) → jGet L 1 = some (.int (i32 (lv))) → jGet L 2 = some (.int (i32 n)) → Wk Gx Ax → Fr [9, 10, 11, 12, 13, 14, 15, 16, 17, 18, 19, 28, 29, 31] [6, 7, 8, 9, 10, 11, 12, 14, 15, 16, 17, 18, 19, 20, 21, 22, 23, 24, 28] G A Gx Ax → Pf nd A Ax → Gx 10 = at1 → Gx 11 = tk1 → Gx 16 = fk1 → Gx 31 = nd1 → Gx 15 = op1 → Gx 19 = sy1 → Gx 28 = na1 → Gx 9 = ln → Gx 29 = vi → ((-2147483648 : Int) ≤ n ∧ n ≤ 2147483647) → (1 ≤ fk1) → (at0 ≤ at1) → (at1 ≤ le) → (nd ≤ n ∧ n ≤ 6998 ∧ n < nd1) → (sy ≤ sy1) → (sy1 ≤ na1 + 2) → (0 ≤ op1 ∧ op1 ≤ 9) → (nd1 - nd ≤ 2 * at1 - 2 * at0 + 8) → wj X d jm299 (119, L, [], rV c0 c1 Gx Ax T) (fun o V' => ∃ (G' : Nat → Int) (A' : Nat → Nat → Int) (r : Int) (ln2 : Int) (at2 : Int) (fk2 : Int) (nd2 : Int) (sy2 : Int) (na2 : Int) (vi2 : Int) (lf2 : Int), V' = rV c0 c1 G' A' T ∧ o = .inl (some (.int (i32 r))) ∧ Wk G' A' ∧ Fr [9, 10, 11, 12, 13, 14, 15, 16, 17, 18, 19, 28, 29, 31] [6, 7, 8, 9, 10, 11, 12, 14, 15, 16, 17, 18, 19, 20, 21, 22, 23, 24, 28] G A G' A' ∧ Pf nd A A' ∧ ((-2147483648 : Int) ≤ r ∧ r ≤ 2147483647) ∧ G' 9 = ln2 ∧ G' 10 = at2 ∧ G' 16 = fk2 ∧ G' 31 = nd2 ∧ G' 19 = sy2 ∧ G' 28 = na2 ∧ G' 29 = vi2 ∧ A' 3 (ln2).toNat = lf2 ∧ (at0 ≤ at2) ∧ (nd ≤ nd2) ∧ (sy ≤ sy2) ∧ (sy2 ≤ na2 + 2) ∧ (vi ≤ vi2) ∧ (vi2 ≤ vi + 1) ∧ (0 ≤ r) ∧ (r ≤ 6999) ∧ (ln ≤ ln2) ∧ (ln2 ≤ li) ∧ (((1 ≤ fk2) ∧ (nd2 - nd ≤ 2 * at2 - (2 * at0 - tz tk0) + 14)) ∨ ((fk2 = 0) ∧ (vi2 = vi) ∧ (ln < ln2) ∧ (nd2 - nd ≤ 2 * at2 - (2 * at0 - tz tk0)) ∧ (at2 < lf2 ∨ li ≤ ln2) ∧ (nd ≤ r) ∧ (r < nd2)))) := by
    intro L Gx Ax n at1 tk1 fk1 nd1 op1 sy1 na1 gL_0 gL_1 gL_2 hWx hFx hPx ex_at1 ex_tk1 ex_fk1 ex_nd1 ex_op1 ex_sy1 ex_na1 fx_9 fx_29 rx_n iv_0 iv_1 iv_2 iv_3 iv_4 iv_5 iv_6 iv_7
    have b_at1 : (0 : Int) ≤ at1 ∧ at1 ≤ 3002 := ex_at1 ▸ hWx.1 10
    have z_tk1 := tz_f tk1
    have b_tk1 : (0 : Int) ≤ tk1 ∧ tk1 ≤ 5 := ex_tk1 ▸ hWx.1 11
    have b_fk1 : (0 : Int) ≤ fk1 ∧ fk1 ≤ 6 := ex_fk1 ▸ hWx.1 16
    have b_nd1 : (0 : Int) ≤ nd1 ∧ nd1 ≤ 6999 := ex_nd1 ▸ hWx.1 31
    have b_op1 : (-2147483648 : Int) ≤ op1 ∧ op1 ≤ 2147483647 := ex_op1 ▸ hWx.1 15
    have b_sy1 : (0 : Int) ≤ sy1 ∧ sy1 ≤ 202 := ex_sy1 ▸ hWx.1 19
    have b_na1 : (0 : Int) ≤ na1 ∧ na1 ≤ 200 := ex_na1 ▸ hWx.1 28
    refine jx_ld (pc' := 120) (l' := L) (st' := [.ref 66]) rfl (jl_aloadn gL_0) ?_
    refine jr_get (pc' := 123) (i := 37) (v := .ref 87) rfl rfl (by decide) rfl rfl ?_
    refine jx_ld (pc' := 124) (l' := L) (st' := [.int (i32 (n)), .ref 87]) rfl (jl_iloadn gL_2) ?_
    refine jx_ld (pc' := 125) (l' := L) (st' := [.ref 66, .int (i32 (n)), .ref 87]) rfl (jl_aloadn gL_0) ?_
    refine jx_ar (pc' := 126) (st' := [.int (i32 (1)), .ref 66, .int (i32 (n)), .ref 87]) rfl rfl rfl rfl ?_
    refine jx_ar (pc' := 128) (st' := [.int (i32 (8)), .int (i32 (1)), .ref 66, .int (i32 (n)), .ref 87]) rfl rfl rfl rfl ?_
    refine jx_vr (pc' := 131) (as := [.int (i32 (1)), .int (i32 (8))]) (st := [.int (i32 (n)), .ref 87]) rfl rfl rfl rfl ⟨rfl, rfl, Nat.le_of_ble_eq_true rfl⟩ rfl rfl (c_needNumber (dd := d) (hd := by omega) (hW := hWx) (lo := 1) (hi := 8) (ln := ln) (e_ln := show Gx 9 = ln from (fx_9)) (le := le) (e_le := show Ax 4 (ln).toNat = le from (congrFun (hFx.2 4 rfl) _).trans (e_le)) (at0 := at1) (e_at0 := show Gx 10 = at1 from (ex_at1)) (fk := fk1) (e_fk := show Gx 16 = fk1 from (ex_fk1)) (tk0 := tk1) (e_tk0 := show Gx 11 = tk1 from (ex_tk1))  (h_lo := ⟨(by decide), (by decide)⟩) (h_hi := ⟨(by decide), (by decide)⟩)  (p_0 := by omega)) (fun o V' hq => ?_)
    obtain ⟨G125, A126, r127, at2_128, tk2_129, fk2_130, rfl, rfl, hW131, hF132, b133, e134, e135, e136, p137, p138, q139⟩ := hq
    have hF140 := Fr_tr hFx hF132 (Fr_sub (by decide)) (Fr_sub (by decide))
    have hP141 := Pf_f hPx hF132 (by decide)
    have bat2_128 : (0 : Int) ≤ at2_128 ∧ at2_128 ≤ 3002 := e134 ▸ hW131.1 10
    have ztk2_129 := tz_b tk2_129
    have btk2_129 : (0 : Int) ≤ tk2_129 ∧ tk2_129 ≤ 5 := e135 ▸ hW131.1 11
    have bfk2_130 : (0 : Int) ≤ fk2_130 ∧ fk2_130 ≤ 6 := e136 ▸ hW131.1 16
    refine .inr ⟨_, rfl, ?_⟩
    rcases q139 with ⟨a142, a143, a144, a145⟩ | ⟨a146, a147, a148, a149, a150⟩
    · have _q : True := trivial
      refine jr_st (pc' := 132) (i := 20) (m := 7000) (z := n) (y := r127) rfl (by decide) rfl (by decide) (by omega) (by omega) rfl ?_
      have hW152 : Wk G125 (uA A126 20 (n).toNat (r127)) := Wk_a hW131 (show (-2147483648 : Int) ≤ r127 by omega) (show r127 ≤ (2147483647 : Int) by omega)
      have hF153 := Fr_a (z := r127) (k := 20) (n := (n).toNat) hF140 (by decide)
      obtain ⟨A151, eA151⟩ : ∃ q, q = uA A126 20 (n).toNat (r127) := ⟨_, rfl⟩
      rw [← eA151]
      rw [← eA151] at hW152 hF153
      have q154 : A151 20 (n).toNat = r127 := by rw [eA151]; exact uA_eq
      have hP155 : Pf nd A A151 := eA151 ▸ Pf_a hP141 (z := n) (by omega) (by omega)
      have z156 := tz_f (tk2_129)
      exact at_132p L G125 A151 (n) (at2_128) (tk2_129) (fk2_130) (nd1) (op1) (sy1) (na1) gL_0 gL_1 gL_2 hW152 hF153 hP155 ((e134)) ((e135)) ((e136)) (((hF132.1 31 rfl).trans (ex_nd1))) (((hF132.1 15 rfl).trans (ex_op1))) (((hF132.1 19 rfl).trans (ex_sy1))) (((hF132.1 28 rfl).trans (ex_na1))) (((hF132.1 9 rfl).trans (fx_9))) (((hF132.1 29 rfl).trans (fx_29))) (by omega) (by omega) (by omega) (by omega) (by omega) (by omega) (by omega) (by omega) (by omega)
    · have _q : True := trivial
      exfalso
      omega
  have at_109 : ∀ (L : jL) (Gx : Nat → Int) (Ax : Nat → Nat → Int) (n at1 tk1 fk1 nd1 op1 sy1 na1 sa1 : Int), jGet L 0 = some (.ref 66) → jGet L 1 = some (.int (i32 (lv))) → jGet L 2 = some (.int (i32 n)) → Wk Gx Ax → Fr [9, 10, 11, 12, 13, 14, 15, 16, 17, 18, 19, 28, 29, 31] [6, 7, 8, 9, 10, 11, 12, 14, 15, 16, 17, 18, 19, 20, 21, 22, 23, 24, 28] G A Gx Ax → Pf nd A Ax → Gx 10 = at1 → Gx 11 = tk1 → Gx 16 = fk1 → Gx 31 = nd1 → Gx 15 = op1 → Gx 19 = sy1 → Gx 28 = na1 → Ax 17 (n).toNat = sa1 → Gx 9 = ln → Gx 29 = vi → ((-2147483648 : Int) ≤ n ∧ n ≤ 2147483647) → (fk1 = 0) → (at0 ≤ at1) → (at1 ≤ le) → (nd ≤ n ∧ n ≤ 6998 ∧ n < nd1) → (sy ≤ sy1) → (sy1 ≤ na1 + 2) → (op1 = 0) → (0 ≤ sa1 ∧ sa1 ≤ 201) → (vi < sy1) → (nd1 - nd ≤ (2 * at1 - tz tk1) - (2 * at0 - tz tk0)) → wj X d jm299 (109, L, [], rV c0 c1 Gx Ax T) (fun o V' => ∃ (G' : Nat → Int) (A' : Nat → Nat → Int) (r : Int) (ln2 : Int) (at2 : Int) (fk2 : Int) (nd2 : Int) (sy2 : Int) (na2 : Int) (vi2 : Int) (lf2 : Int), V' = rV c0 c1 G' A' T ∧ o = .inl (some (.int (i32 r))) ∧ Wk G' A' ∧ Fr [9, 10, 11, 12, 13, 14, 15, 16, 17, 18, 19, 28, 29, 31] [6, 7, 8, 9, 10, 11, 12, 14, 15, 16, 17, 18, 19, 20, 21, 22, 23, 24, 28] G A G' A' ∧ Pf nd A A' ∧ ((-2147483648 : Int) ≤ r ∧ r ≤ 2147483647) ∧ G' 9 = ln2 ∧ G' 10 = at2 ∧ G' 16 = fk2 ∧ G' 31 = nd2 ∧ G' 19 = sy2 ∧ G' 28 = na2 ∧ G' 29 = vi2 ∧ A' 3 (ln2).toNat = lf2 ∧ (at0 ≤ at2) ∧ (nd ≤ nd2) ∧ (sy ≤ sy2) ∧ (sy2 ≤ na2 + 2) ∧ (vi ≤ vi2) ∧ (vi2 ≤ vi + 1) ∧ (0 ≤ r) ∧ (r ≤ 6999) ∧ (ln ≤ ln2) ∧ (ln2 ≤ li) ∧ (((1 ≤ fk2) ∧ (nd2 - nd ≤ 2 * at2 - (2 * at0 - tz tk0) + 14)) ∨ ((fk2 = 0) ∧ (vi2 = vi) ∧ (ln < ln2) ∧ (nd2 - nd ≤ 2 * at2 - (2 * at0 - tz tk0)) ∧ (at2 < lf2 ∨ li ≤ ln2) ∧ (nd ≤ r) ∧ (r < nd2)))) := by
    intro L Gx Ax n at1 tk1 fk1 nd1 op1 sy1 na1 sa1 gL_0 gL_1 gL_2 hWx hFx hPx ex_at1 ex_tk1 ex_fk1 ex_nd1 ex_op1 ex_sy1 ex_na1 ex_sa1 fx_9 fx_29 rx_n iv_0 iv_1 iv_2 iv_3 iv_4 iv_5 iv_6 iv_7 iv_8 iv_9
    have b_at1 : (0 : Int) ≤ at1 ∧ at1 ≤ 3002 := ex_at1 ▸ hWx.1 10
    have z_tk1 := tz_f tk1
    have b_tk1 : (0 : Int) ≤ tk1 ∧ tk1 ≤ 5 := ex_tk1 ▸ hWx.1 11
    have b_fk1 : (0 : Int) ≤ fk1 ∧ fk1 ≤ 6 := ex_fk1 ▸ hWx.1 16
    have b_nd1 : (0 : Int) ≤ nd1 ∧ nd1 ≤ 6999 := ex_nd1 ▸ hWx.1 31
    have b_op1 : (-2147483648 : Int) ≤ op1 ∧ op1 ≤ 2147483647 := ex_op1 ▸ hWx.1 15
    have b_sy1 : (0 : Int) ≤ sy1 ∧ sy1 ≤ 202 := ex_sy1 ▸ hWx.1 19
    have b_na1 : (0 : Int) ≤ na1 ∧ na1 ≤ 200 := ex_na1 ▸ hWx.1 28
    refine jx_ld (pc' := 110) (l' := L) (st' := [.ref 66]) rfl (jl_aloadn gL_0) ?_
    refine jx_ld (pc' := 111) (l' := L) (st' := [.ref 66, .ref 66]) rfl (jl_aloadn gL_0) ?_
    refine jx_ar (pc' := 113) (st' := [.int (i32 (13)), .ref 66, .ref 66]) rfl rfl rfl rfl ?_
    have b157 : (-2147483648 : Int) ≤ Gx 13 ∧ Gx 13 ≤ 2147483647 := hWx.1 13
    refine jx_vr (pc' := 116) (as := [.int (i32 (13))]) (st := [.ref 66]) rfl rfl rfl rfl ⟨rfl, rfl, Nat.le_of_ble_eq_true rfl⟩ rfl rfl (c_isKey (dd := d) (hd := by omega) (hW := hWx) (k := 13) (tk := tk1) (e_tk := show Gx 11 = tk1 from (ex_tk1)) (tn := Gx 13) (e_tn := show Gx 13 = Gx 13 from rfl)  (h_k := ⟨(by decide), (by decide)⟩)  ) (fun o V' hq => ?_)
    obtain ⟨r158, rfl, rfl, b159, q160⟩ := hq
    refine .inr ⟨_, rfl, ?_⟩
    rcases q160 with ⟨rfl, a161, a162, a163⟩ | rfl
    · have _q : True := trivial
      refine jx_vr (pc' := 119) (as := [.int (i32 (1))]) (st := []) rfl rfl rfl rfl ⟨rfl, rfl, Nat.le_of_ble_eq_true rfl⟩ rfl rfl (c_need (dd := d) (hd := by omega) (hW := hWx) (g := 1) (ln := ln) (e_ln := show Gx 9 = ln from (fx_9)) (le := le) (e_le := show Ax 4 (ln).toNat = le from (congrFun (hFx.2 4 rfl) _).trans (e_le)) (at0 := at1) (e_at0 := show Gx 10 = at1 from (ex_at1)) (fk := fk1) (e_fk := show Gx 16 = fk1 from (ex_fk1)) (tk0 := tk1) (e_tk0 := show Gx 11 = tk1 from (ex_tk1))  (h_g := ⟨(by decide), (by decide)⟩)  (p_0 := by omega)) (fun o V' hq => ?_)
      obtain ⟨G164, A165, at2_166, tk2_167, fk2_168, rfl, rfl, hW169, hF170, e171, e172, e173, p174, p175, q176⟩ := hq
      have hF177 := Fr_tr hFx hF170 (Fr_sub (by decide)) (Fr_sub (by decide))
      have hP178 := Pf_f hPx hF170 (by decide)
      have bat2_166 : (0 : Int) ≤ at2_166 ∧ at2_166 ≤ 3002 := e171 ▸ hW169.1 10
      have ztk2_167 := tz_b tk2_167
      have btk2_167 : (0 : Int) ≤ tk2_167 ∧ tk2_167 ≤ 5 := e172 ▸ hW169.1 11
      have bfk2_168 : (0 : Int) ≤ fk2_168 ∧ fk2_168 ≤ 6 := e173 ▸ hW169.1 16
      refine .inl ⟨rfl, ?_⟩
      rcases q176 with ⟨a179, a180, a181, a182⟩ | ⟨a183, a184, a185, a186⟩
      · have _q : True := trivial
        have z187 := tz_f (tk2_167)
        exact at_119p L G164 A165 (n) (at2_166) (tk2_167) (fk2_168) (nd1) (op1) (sy1) (na1) gL_0 gL_1 gL_2 hW169 hF177 hP178 ((e171)) ((e172)) ((e173)) (((hF170.1 31 rfl).trans (ex_nd1))) (((hF170.1 15 rfl).trans (ex_op1))) (((hF170.1 19 rfl).trans (ex_sy1))) (((hF170.1 28 rfl).trans (ex_na1))) (((hF170.1 9 rfl).trans (fx_9))) (((hF170.1 29 rfl).trans (fx_29))) (by omega) (by omega) (by omega) (by omega) (by omega) (by omega) (by omega) (by omega) (by omega)
      · have _q : True := trivial
        have z188 := tz_f (tk2_167)
        exact at_119 L G164 A165 (n) (at2_166) (tk2_167) (fk2_168) (nd1) (op1) (sy1) (na1) (sa1) gL_0 gL_1 gL_2 hW169 hF177 hP178 ((e171)) ((e172)) ((e173)) (((hF170.1 31 rfl).trans (ex_nd1))) (((hF170.1 15 rfl).trans (ex_op1))) (((hF170.1 19 rfl).trans (ex_sy1))) (((hF170.1 28 rfl).trans (ex_na1))) ((congrFun (hF170.2 17 rfl) _).trans (ex_sa1)) (((hF170.1 9 rfl).trans (fx_9))) (((hF170.1 29 rfl).trans (fx_29))) (by omega) (by omega) (by omega) (by omega) (by omega) (by omega) (by omega) (by omega) (by omega) (by omega) (by omega)
    · have _q : True := trivial
      refine jx_vr (pc' := 119) (as := [.int (i32 (0))]) (st := []) rfl rfl rfl rfl ⟨rfl, rfl, Nat.le_of_ble_eq_true rfl⟩ rfl rfl (c_need (dd := d) (hd := by omega) (hW := hWx) (g := 0) (ln := ln) (e_ln := show Gx 9 = ln from (fx_9)) (le := le) (e_le := show Ax 4 (ln).toNat = le from (congrFun (hFx.2 4 rfl) _).trans (e_le)) (at0 := at1) (e_at0 := show Gx 10 = at1 from (ex_at1)) (fk := fk1) (e_fk := show Gx 16 = fk1 from (ex_fk1)) (tk0 := tk1) (e_tk0 := show Gx 11 = tk1 from (ex_tk1))  (h_g := ⟨(by decide), (by decide)⟩)  (p_0 := by omega)) (fun o V' hq => ?_)
      obtain ⟨G189, A190, at2_191, tk2_192, fk2_193, rfl, rfl, hW194, hF195, e196, e197, e198, p199, p200, q201⟩ := hq
      have hF202 := Fr_tr hFx hF195 (Fr_sub (by decide)) (Fr_sub (by decide))
      have hP203 := Pf_f hPx hF195 (by decide)
      have bat2_191 : (0 : Int) ≤ at2_191 ∧ at2_191 ≤ 3002 := e196 ▸ hW194.1 10
      have ztk2_192 := tz_b tk2_192
      have btk2_192 : (0 : Int) ≤ tk2_192 ∧ tk2_192 ≤ 5 := e197 ▸ hW194.1 11
      have bfk2_193 : (0 : Int) ≤ fk2_193 ∧ fk2_193 ≤ 6 := e198 ▸ hW194.1 16
      refine .inl ⟨rfl, ?_⟩
      rcases q201 with ⟨a204, a205, a206, a207⟩ | ⟨a208, a209, a210, a211⟩
      · have _q : True := trivial
        have z212 := tz_f (tk2_192)
        exact at_119p L G189 A190 (n) (at2_191) (tk2_192) (fk2_193) (nd1) (op1) (sy1) (na1) gL_0 gL_1 gL_2 hW194 hF202 hP203 ((e196)) ((e197)) ((e198)) (((hF195.1 31 rfl).trans (ex_nd1))) (((hF195.1 15 rfl).trans (ex_op1))) (((hF195.1 19 rfl).trans (ex_sy1))) (((hF195.1 28 rfl).trans (ex_na1))) (((hF195.1 9 rfl).trans (fx_9))) (((hF195.1 29 rfl).trans (fx_29))) (by omega) (by omega) (by omega) (by omega) (by omega) (by omega) (by omega) (by omega) (by omega)
      · have _q : True := trivial
        exfalso
        omega
  have at_109p : ∀ (L : jL) (Gx : Nat → Int) (Ax : Nat → Nat → Int) (n at1 tk1 fk1 nd1 op1 sy1 na1 : Int), jGet L 0 = some (.ref 66) → jGet L 1 = some (.int (i32 (lv))) → jGet L 2 = some (.int (i32 n)) → Wk Gx Ax → Fr [9, 10, 11, 12, 13, 14, 15, 16, 17, 18, 19, 28, 29, 31] [6, 7, 8, 9, 10, 11, 12, 14, 15, 16, 17, 18, 19, 20, 21, 22, 23, 24, 28] G A Gx Ax → Pf nd A Ax → Gx 10 = at1 → Gx 11 = tk1 → Gx 16 = fk1 → Gx 31 = nd1 → Gx 15 = op1 → Gx 19 = sy1 → Gx 28 = na1 → Gx 9 = ln → Gx 29 = vi → ((-2147483648 : Int) ≤ n ∧ n ≤ 2147483647) → (1 ≤ fk1) → (at0 ≤ at1) → (at1 ≤ le) → (nd ≤ n ∧ n ≤ 6998 ∧ n < nd1) → (sy ≤ sy1) → (sy1 ≤ na1 + 2) → (0 ≤ op1 ∧ op1 ≤ 9) → (nd1 - nd ≤ 2 * at1 - 2 * at0 + 8) → wj X d jm299 (109, L, [], rV c0 c1 Gx Ax T) (fun o V' => ∃ (G' : Nat → Int) (A' : Nat → Nat → Int) (r : Int) (ln2 : Int) (at2 : Int) (fk2 : Int) (nd2 : Int) (sy2 : Int) (na2 : Int) (vi2 : Int) (lf2 : Int), V' = rV c0 c1 G' A' T ∧ o = .inl (some (.int (i32 r))) ∧ Wk G' A' ∧ Fr [9, 10, 11, 12, 13, 14, 15, 16, 17, 18, 19, 28, 29, 31] [6, 7, 8, 9, 10, 11, 12, 14, 15, 16, 17, 18, 19, 20, 21, 22, 23, 24, 28] G A G' A' ∧ Pf nd A A' ∧ ((-2147483648 : Int) ≤ r ∧ r ≤ 2147483647) ∧ G' 9 = ln2 ∧ G' 10 = at2 ∧ G' 16 = fk2 ∧ G' 31 = nd2 ∧ G' 19 = sy2 ∧ G' 28 = na2 ∧ G' 29 = vi2 ∧ A' 3 (ln2).toNat = lf2 ∧ (at0 ≤ at2) ∧ (nd ≤ nd2) ∧ (sy ≤ sy2) ∧ (sy2 ≤ na2 + 2) ∧ (vi ≤ vi2) ∧ (vi2 ≤ vi + 1) ∧ (0 ≤ r) ∧ (r ≤ 6999) ∧ (ln ≤ ln2) ∧ (ln2 ≤ li) ∧ (((1 ≤ fk2) ∧ (nd2 - nd ≤ 2 * at2 - (2 * at0 - tz tk0) + 14)) ∨ ((fk2 = 0) ∧ (vi2 = vi) ∧ (ln < ln2) ∧ (nd2 - nd ≤ 2 * at2 - (2 * at0 - tz tk0)) ∧ (at2 < lf2 ∨ li ≤ ln2) ∧ (nd ≤ r) ∧ (r < nd2)))) := by
    intro L Gx Ax n at1 tk1 fk1 nd1 op1 sy1 na1 gL_0 gL_1 gL_2 hWx hFx hPx ex_at1 ex_tk1 ex_fk1 ex_nd1 ex_op1 ex_sy1 ex_na1 fx_9 fx_29 rx_n iv_0 iv_1 iv_2 iv_3 iv_4 iv_5 iv_6 iv_7
    have b_at1 : (0 : Int) ≤ at1 ∧ at1 ≤ 3002 := ex_at1 ▸ hWx.1 10
    have z_tk1 := tz_f tk1
    have b_tk1 : (0 : Int) ≤ tk1 ∧ tk1 ≤ 5 := ex_tk1 ▸ hWx.1 11
    have b_fk1 : (0 : Int) ≤ fk1 ∧ fk1 ≤ 6 := ex_fk1 ▸ hWx.1 16
    have b_nd1 : (0 : Int) ≤ nd1 ∧ nd1 ≤ 6999 := ex_nd1 ▸ hWx.1 31
    have b_op1 : (-2147483648 : Int) ≤ op1 ∧ op1 ≤ 2147483647 := ex_op1 ▸ hWx.1 15
    have b_sy1 : (0 : Int) ≤ sy1 ∧ sy1 ≤ 202 := ex_sy1 ▸ hWx.1 19
    have b_na1 : (0 : Int) ≤ na1 ∧ na1 ≤ 200 := ex_na1 ▸ hWx.1 28
    refine jx_ld (pc' := 110) (l' := L) (st' := [.ref 66]) rfl (jl_aloadn gL_0) ?_
    refine jx_ld (pc' := 111) (l' := L) (st' := [.ref 66, .ref 66]) rfl (jl_aloadn gL_0) ?_
    refine jx_ar (pc' := 113) (st' := [.int (i32 (13)), .ref 66, .ref 66]) rfl rfl rfl rfl ?_
    have b213 : (-2147483648 : Int) ≤ Gx 13 ∧ Gx 13 ≤ 2147483647 := hWx.1 13
    refine jx_vr (pc' := 116) (as := [.int (i32 (13))]) (st := [.ref 66]) rfl rfl rfl rfl ⟨rfl, rfl, Nat.le_of_ble_eq_true rfl⟩ rfl rfl (c_isKey (dd := d) (hd := by omega) (hW := hWx) (k := 13) (tk := tk1) (e_tk := show Gx 11 = tk1 from (ex_tk1)) (tn := Gx 13) (e_tn := show Gx 13 = Gx 13 from rfl)  (h_k := ⟨(by decide), (by decide)⟩)  ) (fun o V' hq => ?_)
    obtain ⟨r214, rfl, rfl, b215, q216⟩ := hq
    refine .inr ⟨_, rfl, ?_⟩
    rcases q216 with ⟨rfl, a217, a218, a219⟩ | rfl
    · have _q : True := trivial
      refine jx_vr (pc' := 119) (as := [.int (i32 (1))]) (st := []) rfl rfl rfl rfl ⟨rfl, rfl, Nat.le_of_ble_eq_true rfl⟩ rfl rfl (c_need (dd := d) (hd := by omega) (hW := hWx) (g := 1) (ln := ln) (e_ln := show Gx 9 = ln from (fx_9)) (le := le) (e_le := show Ax 4 (ln).toNat = le from (congrFun (hFx.2 4 rfl) _).trans (e_le)) (at0 := at1) (e_at0 := show Gx 10 = at1 from (ex_at1)) (fk := fk1) (e_fk := show Gx 16 = fk1 from (ex_fk1)) (tk0 := tk1) (e_tk0 := show Gx 11 = tk1 from (ex_tk1))  (h_g := ⟨(by decide), (by decide)⟩)  (p_0 := by omega)) (fun o V' hq => ?_)
      obtain ⟨G220, A221, at2_222, tk2_223, fk2_224, rfl, rfl, hW225, hF226, e227, e228, e229, p230, p231, q232⟩ := hq
      have hF233 := Fr_tr hFx hF226 (Fr_sub (by decide)) (Fr_sub (by decide))
      have hP234 := Pf_f hPx hF226 (by decide)
      have bat2_222 : (0 : Int) ≤ at2_222 ∧ at2_222 ≤ 3002 := e227 ▸ hW225.1 10
      have ztk2_223 := tz_b tk2_223
      have btk2_223 : (0 : Int) ≤ tk2_223 ∧ tk2_223 ≤ 5 := e228 ▸ hW225.1 11
      have bfk2_224 : (0 : Int) ≤ fk2_224 ∧ fk2_224 ≤ 6 := e229 ▸ hW225.1 16
      refine .inl ⟨rfl, ?_⟩
      rcases q232 with ⟨a235, a236, a237, a238⟩ | ⟨a239, a240, a241, a242⟩
      · have _q : True := trivial
        have z243 := tz_f (tk2_223)
        exact at_119p L G220 A221 (n) (at2_222) (tk2_223) (fk2_224) (nd1) (op1) (sy1) (na1) gL_0 gL_1 gL_2 hW225 hF233 hP234 ((e227)) ((e228)) ((e229)) (((hF226.1 31 rfl).trans (ex_nd1))) (((hF226.1 15 rfl).trans (ex_op1))) (((hF226.1 19 rfl).trans (ex_sy1))) (((hF226.1 28 rfl).trans (ex_na1))) (((hF226.1 9 rfl).trans (fx_9))) (((hF226.1 29 rfl).trans (fx_29))) (by omega) (by omega) (by omega) (by omega) (by omega) (by omega) (by omega) (by omega) (by omega)
      · have _q : True := trivial
        exfalso
        omega
    · have _q : True := trivial
      refine jx_vr (pc' := 119) (as := [.int (i32 (0))]) (st := []) rfl rfl rfl rfl ⟨rfl, rfl, Nat.le_of_ble_eq_true rfl⟩ rfl rfl (c_need (dd := d) (hd := by omega) (hW := hWx) (g := 0) (ln := ln) (e_ln := show Gx 9 = ln from (fx_9)) (le := le) (e_le := show Ax 4 (ln).toNat = le from (congrFun (hFx.2 4 rfl) _).trans (e_le)) (at0 := at1) (e_at0 := show Gx 10 = at1 from (ex_at1)) (fk := fk1) (e_fk := show Gx 16 = fk1 from (ex_fk1)) (tk0 := tk1) (e_tk0 := show Gx 11 = tk1 from (ex_tk1))  (h_g := ⟨(by decide), (by decide)⟩)  (p_0 := by omega)) (fun o V' hq => ?_)
      obtain ⟨G244, A245, at2_246, tk2_247, fk2_248, rfl, rfl, hW249, hF250, e251, e252, e253, p254, p255, q256⟩ := hq
      have hF257 := Fr_tr hFx hF250 (Fr_sub (by decide)) (Fr_sub (by decide))
      have hP258 := Pf_f hPx hF250 (by decide)
      have bat2_246 : (0 : Int) ≤ at2_246 ∧ at2_246 ≤ 3002 := e251 ▸ hW249.1 10
      have ztk2_247 := tz_b tk2_247
      have btk2_247 : (0 : Int) ≤ tk2_247 ∧ tk2_247 ≤ 5 := e252 ▸ hW249.1 11
      have bfk2_248 : (0 : Int) ≤ fk2_248 ∧ fk2_248 ≤ 6 := e253 ▸ hW249.1 16
      refine .inl ⟨rfl, ?_⟩
      rcases q256 with ⟨a259, a260, a261, a262⟩ | ⟨a263, a264, a265, a266⟩
      · have _q : True := trivial
        have z267 := tz_f (tk2_247)
        exact at_119p L G244 A245 (n) (at2_246) (tk2_247) (fk2_248) (nd1) (op1) (sy1) (na1) gL_0 gL_1 gL_2 hW249 hF257 hP258 ((e251)) ((e252)) ((e253)) (((hF250.1 31 rfl).trans (ex_nd1))) (((hF250.1 15 rfl).trans (ex_op1))) (((hF250.1 19 rfl).trans (ex_sy1))) (((hF250.1 28 rfl).trans (ex_na1))) (((hF250.1 9 rfl).trans (fx_9))) (((hF250.1 29 rfl).trans (fx_29))) (by omega) (by omega) (by omega) (by omega) (by omega) (by omega) (by omega) (by omega) (by omega)
      · have _q : True := trivial
        exfalso
        omega
  have at_95 : ∀ (L : jL) (Gx : Nat → Int) (Ax : Nat → Nat → Int) (n at1 tk1 fk1 nd1 op1 sy1 na1 sa1 : Int), jGet L 0 = some (.ref 66) → jGet L 1 = some (.int (i32 (lv))) → jGet L 2 = some (.int (i32 n)) → Wk Gx Ax → Fr [9, 10, 11, 12, 13, 14, 15, 16, 17, 18, 19, 28, 29, 31] [6, 7, 8, 9, 10, 11, 12, 14, 15, 16, 17, 18, 19, 20, 21, 22, 23, 24, 28] G A Gx Ax → Pf nd A Ax → Gx 10 = at1 → Gx 11 = tk1 → Gx 16 = fk1 → Gx 31 = nd1 → Gx 15 = op1 → Gx 19 = sy1 → Gx 28 = na1 → Ax 17 (n).toNat = sa1 → Gx 9 = ln → Gx 29 = vi → ((-2147483648 : Int) ≤ n ∧ n ≤ 2147483647) → (fk1 = 0) → (at0 ≤ at1) → (at1 ≤ le) → (nd ≤ n ∧ n ≤ 6998 ∧ n < nd1) → (sy ≤ sy1) → (sy1 ≤ na1 + 2) → (op1 = 0) → (0 ≤ sa1 ∧ sa1 ≤ 201) → (vi < sy1) → (nd1 - nd ≤ (2 * at1 - tz tk1) - (2 * at0 - tz tk0)) → wj X d jm299 (95, L, [], rV c0 c1 Gx Ax T) (fun o V' => ∃ (G' : Nat → Int) (A' : Nat → Nat → Int) (r : Int) (ln2 : Int) (at2 : Int) (fk2 : Int) (nd2 : Int) (sy2 : Int) (na2 : Int) (vi2 : Int) (lf2 : Int), V' = rV c0 c1 G' A' T ∧ o = .inl (some (.int (i32 r))) ∧ Wk G' A' ∧ Fr [9, 10, 11, 12, 13, 14, 15, 16, 17, 18, 19, 28, 29, 31] [6, 7, 8, 9, 10, 11, 12, 14, 15, 16, 17, 18, 19, 20, 21, 22, 23, 24, 28] G A G' A' ∧ Pf nd A A' ∧ ((-2147483648 : Int) ≤ r ∧ r ≤ 2147483647) ∧ G' 9 = ln2 ∧ G' 10 = at2 ∧ G' 16 = fk2 ∧ G' 31 = nd2 ∧ G' 19 = sy2 ∧ G' 28 = na2 ∧ G' 29 = vi2 ∧ A' 3 (ln2).toNat = lf2 ∧ (at0 ≤ at2) ∧ (nd ≤ nd2) ∧ (sy ≤ sy2) ∧ (sy2 ≤ na2 + 2) ∧ (vi ≤ vi2) ∧ (vi2 ≤ vi + 1) ∧ (0 ≤ r) ∧ (r ≤ 6999) ∧ (ln ≤ ln2) ∧ (ln2 ≤ li) ∧ (((1 ≤ fk2) ∧ (nd2 - nd ≤ 2 * at2 - (2 * at0 - tz tk0) + 14)) ∨ ((fk2 = 0) ∧ (vi2 = vi) ∧ (ln < ln2) ∧ (nd2 - nd ≤ 2 * at2 - (2 * at0 - tz tk0)) ∧ (at2 < lf2 ∨ li ≤ ln2) ∧ (nd ≤ r) ∧ (r < nd2)))) := by
    intro L Gx Ax n at1 tk1 fk1 nd1 op1 sy1 na1 sa1 gL_0 gL_1 gL_2 hWx hFx hPx ex_at1 ex_tk1 ex_fk1 ex_nd1 ex_op1 ex_sy1 ex_na1 ex_sa1 fx_9 fx_29 rx_n iv_0 iv_1 iv_2 iv_3 iv_4 iv_5 iv_6 iv_7 iv_8 iv_9
    have b_at1 : (0 : Int) ≤ at1 ∧ at1 ≤ 3002 := ex_at1 ▸ hWx.1 10
    have z_tk1 := tz_f tk1
    have b_tk1 : (0 : Int) ≤ tk1 ∧ tk1 ≤ 5 := ex_tk1 ▸ hWx.1 11
    have b_fk1 : (0 : Int) ≤ fk1 ∧ fk1 ≤ 6 := ex_fk1 ▸ hWx.1 16
    have b_nd1 : (0 : Int) ≤ nd1 ∧ nd1 ≤ 6999 := ex_nd1 ▸ hWx.1 31
    have b_op1 : (-2147483648 : Int) ≤ op1 ∧ op1 ≤ 2147483647 := ex_op1 ▸ hWx.1 15
    have b_sy1 : (0 : Int) ≤ sy1 ∧ sy1 ≤ 202 := ex_sy1 ▸ hWx.1 19
    have b_na1 : (0 : Int) ≤ na1 ∧ na1 ≤ 200 := ex_na1 ▸ hWx.1 28
    refine jx_ld (pc' := 96) (l' := L) (st' := [.ref 66]) rfl (jl_aloadn gL_0) ?_
    refine jr_get (pc' := 99) (i := 36) (v := .ref 86) rfl rfl (by decide) rfl rfl ?_
    refine jx_ld (pc' := 100) (l' := L) (st' := [.int (i32 (n)), .ref 86]) rfl (jl_iloadn gL_2) ?_
    refine jx_ld (pc' := 101) (l' := L) (st' := [.ref 66, .int (i32 (n)), .ref 86]) rfl (jl_aloadn gL_0) ?_
    refine jx_ar (pc' := 102) (st' := [.int (i32 (0)), .ref 66, .int (i32 (n)), .ref 86]) rfl rfl rfl rfl ?_
    refine jx_hp (pc' := 105) (st' := [.int (i32 (2147483647)), .int (i32 (0)), .ref 66, .int (i32 (n)), .ref 86]) rfl rfl rfl rfl rfl rfl ?_
    refine jx_vr (pc' := 108) (as := [.int (i32 (0)), .int (i32 (2147483647))]) (st := [.int (i32 (n)), .ref 86]) rfl rfl rfl rfl ⟨rfl, rfl, Nat.le_of_ble_eq_true rfl⟩ rfl rfl (c_needNumber (dd := d) (hd := by omega) (hW := hWx) (lo := 0) (hi := 2147483647) (ln := ln) (e_ln := show Gx 9 = ln from (fx_9)) (le := le) (e_le := show Ax 4 (ln).toNat = le from (congrFun (hFx.2 4 rfl) _).trans (e_le)) (at0 := at1) (e_at0 := show Gx 10 = at1 from (ex_at1)) (fk := fk1) (e_fk := show Gx 16 = fk1 from (ex_fk1)) (tk0 := tk1) (e_tk0 := show Gx 11 = tk1 from (ex_tk1))  (h_lo := ⟨(by decide), (by decide)⟩) (h_hi := ⟨(by decide), (by decide)⟩)  (p_0 := by omega)) (fun o V' hq => ?_)
    obtain ⟨G268, A269, r270, at2_271, tk2_272, fk2_273, rfl, rfl, hW274, hF275, b276, e277, e278, e279, p280, p281, q282⟩ := hq
    have hF283 := Fr_tr hFx hF275 (Fr_sub (by decide)) (Fr_sub (by decide))
    have hP284 := Pf_f hPx hF275 (by decide)
    have bat2_271 : (0 : Int) ≤ at2_271 ∧ at2_271 ≤ 3002 := e277 ▸ hW274.1 10
    have ztk2_272 := tz_b tk2_272
    have btk2_272 : (0 : Int) ≤ tk2_272 ∧ tk2_272 ≤ 5 := e278 ▸ hW274.1 11
    have bfk2_273 : (0 : Int) ≤ fk2_273 ∧ fk2_273 ≤ 6 := e279 ▸ hW274.1 16
    refine .inr ⟨_, rfl, ?_⟩
    rcases q282 with ⟨a285, a286, a287, a288⟩ | ⟨a289, a290, a291, a292, a293⟩
    · have _q : True := trivial
      refine jr_st (pc' := 109) (i := 19) (m := 7000) (z := n) (y := r270) rfl (by decide) rfl (by decide) (by omega) (by omega) rfl ?_
      have hW295 : Wk G268 (uA A269 19 (n).toNat (r270)) := Wk_a hW274 (show (-2147483648 : Int) ≤ r270 by omega) (show r270 ≤ (2147483647 : Int) by omega)
      have hF296 := Fr_a (z := r270) (k := 19) (n := (n).toNat) hF283 (by decide)
      obtain ⟨A294, eA294⟩ : ∃ q, q = uA A269 19 (n).toNat (r270) := ⟨_, rfl⟩
      rw [← eA294]
      rw [← eA294] at hW295 hF296
      have q297 : A294 19 (n).toNat = r270 := by rw [eA294]; exact uA_eq
      have hP298 : Pf nd A A294 := eA294 ▸ Pf_a hP284 (z := n) (by omega) (by omega)
      have z299 := tz_f (tk2_272)
      exact at_109p L G268 A294 (n) (at2_271) (tk2_272) (fk2_273) (nd1) (op1) (sy1) (na1) gL_0 gL_1 gL_2 hW295 hF296 hP298 ((e277)) ((e278)) ((e279)) (((hF275.1 31 rfl).trans (ex_nd1))) (((hF275.1 15 rfl).trans (ex_op1))) (((hF275.1 19 rfl).trans (ex_sy1))) (((hF275.1 28 rfl).trans (ex_na1))) (((hF275.1 9 rfl).trans (fx_9))) (((hF275.1 29 rfl).trans (fx_29))) (by omega) (by omega) (by omega) (by omega) (by omega) (by omega) (by omega) (by omega) (by omega)
    · have _q : True := trivial
      refine jr_st (pc' := 109) (i := 19) (m := 7000) (z := n) (y := r270) rfl (by decide) rfl (by decide) (by omega) (by omega) rfl ?_
      have hW301 : Wk G268 (uA A269 19 (n).toNat (r270)) := Wk_a hW274 (show (-2147483648 : Int) ≤ r270 by omega) (show r270 ≤ (2147483647 : Int) by omega)
      have hF302 := Fr_a (z := r270) (k := 19) (n := (n).toNat) hF283 (by decide)
      obtain ⟨A300, eA300⟩ : ∃ q, q = uA A269 19 (n).toNat (r270) := ⟨_, rfl⟩
      rw [← eA300]
      rw [← eA300] at hW301 hF302
      have q303 : A300 19 (n).toNat = r270 := by rw [eA300]; exact uA_eq
      have hP304 : Pf nd A A300 := eA300 ▸ Pf_a hP284 (z := n) (by omega) (by omega)
      have z305 := tz_f (tk2_272)
      exact at_109 L G268 A300 (n) (at2_271) (tk2_272) (fk2_273) (nd1) (op1) (sy1) (na1) (sa1) gL_0 gL_1 gL_2 hW301 hF302 hP304 ((e277)) ((e278)) ((e279)) (((hF275.1 31 rfl).trans (ex_nd1))) (((hF275.1 15 rfl).trans (ex_op1))) (((hF275.1 19 rfl).trans (ex_sy1))) (((hF275.1 28 rfl).trans (ex_na1))) ((congrFun (((congrFun eA300 17).trans (uA_ne (by decide))).trans (hF275.2 17 rfl)) _).trans (ex_sa1)) (((hF275.1 9 rfl).trans (fx_9))) (((hF275.1 29 rfl).trans (fx_29))) (by omega) (by omega) (by omega) (by omega) (by omega) (by omega) (by omega) (by omega) (by omega) (by omega) (by omega)
  have at_95p : ∀ (L : jL) (Gx : Nat → Int) (Ax : Nat → Nat → Int) (n at1 tk1 fk1 nd1 op1 sy1 na1 : Int), jGet L 0 = some (.ref 66) → jGet L 1 = some (.int (i32 (lv))) → jGet L 2 = some (.int (i32 n)) → Wk Gx Ax → Fr [9, 10, 11, 12, 13, 14, 15, 16, 17, 18, 19, 28, 29, 31] [6, 7, 8, 9, 10, 11, 12, 14, 15, 16, 17, 18, 19, 20, 21, 22, 23, 24, 28] G A Gx Ax → Pf nd A Ax → Gx 10 = at1 → Gx 11 = tk1 → Gx 16 = fk1 → Gx 31 = nd1 → Gx 15 = op1 → Gx 19 = sy1 → Gx 28 = na1 → Gx 9 = ln → Gx 29 = vi → ((-2147483648 : Int) ≤ n ∧ n ≤ 2147483647) → (1 ≤ fk1) → (at0 ≤ at1) → (at1 ≤ le) → (nd ≤ n ∧ n ≤ 6998 ∧ n < nd1) → (sy ≤ sy1) → (sy1 ≤ na1 + 2) → (0 ≤ op1 ∧ op1 ≤ 9) → (nd1 - nd ≤ 2 * at1 - 2 * at0 + 8) → wj X d jm299 (95, L, [], rV c0 c1 Gx Ax T) (fun o V' => ∃ (G' : Nat → Int) (A' : Nat → Nat → Int) (r : Int) (ln2 : Int) (at2 : Int) (fk2 : Int) (nd2 : Int) (sy2 : Int) (na2 : Int) (vi2 : Int) (lf2 : Int), V' = rV c0 c1 G' A' T ∧ o = .inl (some (.int (i32 r))) ∧ Wk G' A' ∧ Fr [9, 10, 11, 12, 13, 14, 15, 16, 17, 18, 19, 28, 29, 31] [6, 7, 8, 9, 10, 11, 12, 14, 15, 16, 17, 18, 19, 20, 21, 22, 23, 24, 28] G A G' A' ∧ Pf nd A A' ∧ ((-2147483648 : Int) ≤ r ∧ r ≤ 2147483647) ∧ G' 9 = ln2 ∧ G' 10 = at2 ∧ G' 16 = fk2 ∧ G' 31 = nd2 ∧ G' 19 = sy2 ∧ G' 28 = na2 ∧ G' 29 = vi2 ∧ A' 3 (ln2).toNat = lf2 ∧ (at0 ≤ at2) ∧ (nd ≤ nd2) ∧ (sy ≤ sy2) ∧ (sy2 ≤ na2 + 2) ∧ (vi ≤ vi2) ∧ (vi2 ≤ vi + 1) ∧ (0 ≤ r) ∧ (r ≤ 6999) ∧ (ln ≤ ln2) ∧ (ln2 ≤ li) ∧ (((1 ≤ fk2) ∧ (nd2 - nd ≤ 2 * at2 - (2 * at0 - tz tk0) + 14)) ∨ ((fk2 = 0) ∧ (vi2 = vi) ∧ (ln < ln2) ∧ (nd2 - nd ≤ 2 * at2 - (2 * at0 - tz tk0)) ∧ (at2 < lf2 ∨ li ≤ ln2) ∧ (nd ≤ r) ∧ (r < nd2)))) := by
    intro L Gx Ax n at1 tk1 fk1 nd1 op1 sy1 na1 gL_0 gL_1 gL_2 hWx hFx hPx ex_at1 ex_tk1 ex_fk1 ex_nd1 ex_op1 ex_sy1 ex_na1 fx_9 fx_29 rx_n iv_0 iv_1 iv_2 iv_3 iv_4 iv_5 iv_6 iv_7
    have b_at1 : (0 : Int) ≤ at1 ∧ at1 ≤ 3002 := ex_at1 ▸ hWx.1 10
    have z_tk1 := tz_f tk1
    have b_tk1 : (0 : Int) ≤ tk1 ∧ tk1 ≤ 5 := ex_tk1 ▸ hWx.1 11
    have b_fk1 : (0 : Int) ≤ fk1 ∧ fk1 ≤ 6 := ex_fk1 ▸ hWx.1 16
    have b_nd1 : (0 : Int) ≤ nd1 ∧ nd1 ≤ 6999 := ex_nd1 ▸ hWx.1 31
    have b_op1 : (-2147483648 : Int) ≤ op1 ∧ op1 ≤ 2147483647 := ex_op1 ▸ hWx.1 15
    have b_sy1 : (0 : Int) ≤ sy1 ∧ sy1 ≤ 202 := ex_sy1 ▸ hWx.1 19
    have b_na1 : (0 : Int) ≤ na1 ∧ na1 ≤ 200 := ex_na1 ▸ hWx.1 28
    refine jx_ld (pc' := 96) (l' := L) (st' := [.ref 66]) rfl (jl_aloadn gL_0) ?_
    refine jr_get (pc' := 99) (i := 36) (v := .ref 86) rfl rfl (by decide) rfl rfl ?_
    refine jx_ld (pc' := 100) (l' := L) (st' := [.int (i32 (n)), .ref 86]) rfl (jl_iloadn gL_2) ?_
    refine jx_ld (pc' := 101) (l' := L) (st' := [.ref 66, .int (i32 (n)), .ref 86]) rfl (jl_aloadn gL_0) ?_
    refine jx_ar (pc' := 102) (st' := [.int (i32 (0)), .ref 66, .int (i32 (n)), .ref 86]) rfl rfl rfl rfl ?_
    refine jx_hp (pc' := 105) (st' := [.int (i32 (2147483647)), .int (i32 (0)), .ref 66, .int (i32 (n)), .ref 86]) rfl rfl rfl rfl rfl rfl ?_
    refine jx_vr (pc' := 108) (as := [.int (i32 (0)), .int (i32 (2147483647))]) (st := [.int (i32 (n)), .ref 86]) rfl rfl rfl rfl ⟨rfl, rfl, Nat.le_of_ble_eq_true rfl⟩ rfl rfl (c_needNumber (dd := d) (hd := by omega) (hW := hWx) (lo := 0) (hi := 2147483647) (ln := ln) (e_ln := show Gx 9 = ln from (fx_9)) (le := le) (e_le := show Ax 4 (ln).toNat = le from (congrFun (hFx.2 4 rfl) _).trans (e_le)) (at0 := at1) (e_at0 := show Gx 10 = at1 from (ex_at1)) (fk := fk1) (e_fk := show Gx 16 = fk1 from (ex_fk1)) (tk0 := tk1) (e_tk0 := show Gx 11 = tk1 from (ex_tk1))  (h_lo := ⟨(by decide), (by decide)⟩) (h_hi := ⟨(by decide), (by decide)⟩)  (p_0 := by omega)) (fun o V' hq => ?_)
    obtain ⟨G306, A307, r308, at2_309, tk2_310, fk2_311, rfl, rfl, hW312, hF313, b314, e315, e316, e317, p318, p319, q320⟩ := hq
    have hF321 := Fr_tr hFx hF313 (Fr_sub (by decide)) (Fr_sub (by decide))
    have hP322 := Pf_f hPx hF313 (by decide)
    have bat2_309 : (0 : Int) ≤ at2_309 ∧ at2_309 ≤ 3002 := e315 ▸ hW312.1 10
    have ztk2_310 := tz_b tk2_310
    have btk2_310 : (0 : Int) ≤ tk2_310 ∧ tk2_310 ≤ 5 := e316 ▸ hW312.1 11
    have bfk2_311 : (0 : Int) ≤ fk2_311 ∧ fk2_311 ≤ 6 := e317 ▸ hW312.1 16
    refine .inr ⟨_, rfl, ?_⟩
    rcases q320 with ⟨a323, a324, a325, a326⟩ | ⟨a327, a328, a329, a330, a331⟩
    · have _q : True := trivial
      refine jr_st (pc' := 109) (i := 19) (m := 7000) (z := n) (y := r308) rfl (by decide) rfl (by decide) (by omega) (by omega) rfl ?_
      have hW333 : Wk G306 (uA A307 19 (n).toNat (r308)) := Wk_a hW312 (show (-2147483648 : Int) ≤ r308 by omega) (show r308 ≤ (2147483647 : Int) by omega)
      have hF334 := Fr_a (z := r308) (k := 19) (n := (n).toNat) hF321 (by decide)
      obtain ⟨A332, eA332⟩ : ∃ q, q = uA A307 19 (n).toNat (r308) := ⟨_, rfl⟩
      rw [← eA332]
      rw [← eA332] at hW333 hF334
      have q335 : A332 19 (n).toNat = r308 := by rw [eA332]; exact uA_eq
      have hP336 : Pf nd A A332 := eA332 ▸ Pf_a hP322 (z := n) (by omega) (by omega)
      have z337 := tz_f (tk2_310)
      exact at_109p L G306 A332 (n) (at2_309) (tk2_310) (fk2_311) (nd1) (op1) (sy1) (na1) gL_0 gL_1 gL_2 hW333 hF334 hP336 ((e315)) ((e316)) ((e317)) (((hF313.1 31 rfl).trans (ex_nd1))) (((hF313.1 15 rfl).trans (ex_op1))) (((hF313.1 19 rfl).trans (ex_sy1))) (((hF313.1 28 rfl).trans (ex_na1))) (((hF313.1 9 rfl).trans (fx_9))) (((hF313.1 29 rfl).trans (fx_29))) (by omega) (by omega) (by omega) (by omega) (by omega) (by omega) (by omega) (by omega) (by omega)
    · have _q : True := trivial
      exfalso
      omega
  have at_85 : ∀ (L : jL) (Gx : Nat → Int) (Ax : Nat → Nat → Int) (n at1 tk1 fk1 nd1 op1 sy1 na1 sa1 : Int), jGet L 0 = some (.ref 66) → jGet L 1 = some (.int (i32 (lv))) → jGet L 2 = some (.int (i32 n)) → Wk Gx Ax → Fr [9, 10, 11, 12, 13, 14, 15, 16, 17, 18, 19, 28, 29, 31] [6, 7, 8, 9, 10, 11, 12, 14, 15, 16, 17, 18, 19, 20, 21, 22, 23, 24, 28] G A Gx Ax → Pf nd A Ax → Gx 10 = at1 → Gx 11 = tk1 → Gx 16 = fk1 → Gx 31 = nd1 → Gx 15 = op1 → Gx 19 = sy1 → Gx 28 = na1 → Ax 17 (n).toNat = sa1 → Gx 9 = ln → Gx 29 = vi → ((-2147483648 : Int) ≤ n ∧ n ≤ 2147483647) → (fk1 = 0) → (at0 ≤ at1) → (at1 ≤ le) → (nd ≤ n ∧ n ≤ 6998 ∧ n < nd1) → (sy ≤ sy1) → (sy1 ≤ na1 + 2) → (op1 = 0) → (0 ≤ sa1 ∧ sa1 ≤ 201) → (vi < sy1) → (nd1 - nd ≤ (2 * at1 - tz tk1) - (2 * at0 - tz tk0)) → wj X d jm299 (85, L, [], rV c0 c1 Gx Ax T) (fun o V' => ∃ (G' : Nat → Int) (A' : Nat → Nat → Int) (r : Int) (ln2 : Int) (at2 : Int) (fk2 : Int) (nd2 : Int) (sy2 : Int) (na2 : Int) (vi2 : Int) (lf2 : Int), V' = rV c0 c1 G' A' T ∧ o = .inl (some (.int (i32 r))) ∧ Wk G' A' ∧ Fr [9, 10, 11, 12, 13, 14, 15, 16, 17, 18, 19, 28, 29, 31] [6, 7, 8, 9, 10, 11, 12, 14, 15, 16, 17, 18, 19, 20, 21, 22, 23, 24, 28] G A G' A' ∧ Pf nd A A' ∧ ((-2147483648 : Int) ≤ r ∧ r ≤ 2147483647) ∧ G' 9 = ln2 ∧ G' 10 = at2 ∧ G' 16 = fk2 ∧ G' 31 = nd2 ∧ G' 19 = sy2 ∧ G' 28 = na2 ∧ G' 29 = vi2 ∧ A' 3 (ln2).toNat = lf2 ∧ (at0 ≤ at2) ∧ (nd ≤ nd2) ∧ (sy ≤ sy2) ∧ (sy2 ≤ na2 + 2) ∧ (vi ≤ vi2) ∧ (vi2 ≤ vi + 1) ∧ (0 ≤ r) ∧ (r ≤ 6999) ∧ (ln ≤ ln2) ∧ (ln2 ≤ li) ∧ (((1 ≤ fk2) ∧ (nd2 - nd ≤ 2 * at2 - (2 * at0 - tz tk0) + 14)) ∨ ((fk2 = 0) ∧ (vi2 = vi) ∧ (ln < ln2) ∧ (nd2 - nd ≤ 2 * at2 - (2 * at0 - tz tk0)) ∧ (at2 < lf2 ∨ li ≤ ln2) ∧ (nd ≤ r) ∧ (r < nd2)))) := by
    intro L Gx Ax n at1 tk1 fk1 nd1 op1 sy1 na1 sa1 gL_0 gL_1 gL_2 hWx hFx hPx ex_at1 ex_tk1 ex_fk1 ex_nd1 ex_op1 ex_sy1 ex_na1 ex_sa1 fx_9 fx_29 rx_n iv_0 iv_1 iv_2 iv_3 iv_4 iv_5 iv_6 iv_7 iv_8 iv_9
    have b_at1 : (0 : Int) ≤ at1 ∧ at1 ≤ 3002 := ex_at1 ▸ hWx.1 10
    have z_tk1 := tz_f tk1
    have b_tk1 : (0 : Int) ≤ tk1 ∧ tk1 ≤ 5 := ex_tk1 ▸ hWx.1 11
    have b_fk1 : (0 : Int) ≤ fk1 ∧ fk1 ≤ 6 := ex_fk1 ▸ hWx.1 16
    have b_nd1 : (0 : Int) ≤ nd1 ∧ nd1 ≤ 6999 := ex_nd1 ▸ hWx.1 31
    have b_op1 : (-2147483648 : Int) ≤ op1 ∧ op1 ≤ 2147483647 := ex_op1 ▸ hWx.1 15
    have b_sy1 : (0 : Int) ≤ sy1 ∧ sy1 ≤ 202 := ex_sy1 ▸ hWx.1 19
    have b_na1 : (0 : Int) ≤ na1 ∧ na1 ≤ 200 := ex_na1 ▸ hWx.1 28
    refine jx_ld (pc' := 86) (l' := L) (st' := [.ref 66]) rfl (jl_aloadn gL_0) ?_
    refine jx_ld (pc' := 87) (l' := L) (st' := [.ref 66, .ref 66]) rfl (jl_aloadn gL_0) ?_
    refine jx_ar (pc' := 89) (st' := [.int (i32 (61)), .ref 66, .ref 66]) rfl rfl rfl rfl ?_
    have b338 : (-2147483648 : Int) ≤ Gx 13 ∧ Gx 13 ≤ 2147483647 := hWx.1 13
    refine jx_vr (pc' := 92) (as := [.int (i32 (61))]) (st := [.ref 66]) rfl rfl rfl rfl ⟨rfl, rfl, Nat.le_of_ble_eq_true rfl⟩ rfl rfl (c_is (dd := d) (hd := by omega) (hW := hWx) (k := 61) (tk := tk1) (e_tk := show Gx 11 = tk1 from (ex_tk1)) (tn := Gx 13) (e_tn := show Gx 13 = Gx 13 from rfl)  (h_k := ⟨(by decide), (by decide)⟩)  ) (fun o V' hq => ?_)
    obtain ⟨r339, rfl, rfl, b340, q341⟩ := hq
    refine .inr ⟨_, rfl, ?_⟩
    rcases q341 with ⟨rfl, a342, a343, a344⟩ | rfl
    · have _q : True := trivial
      refine jx_vr (pc' := 95) (as := [.int (i32 (1))]) (st := []) rfl rfl rfl rfl ⟨rfl, rfl, Nat.le_of_ble_eq_true rfl⟩ rfl rfl (c_need (dd := d) (hd := by omega) (hW := hWx) (g := 1) (ln := ln) (e_ln := show Gx 9 = ln from (fx_9)) (le := le) (e_le := show Ax 4 (ln).toNat = le from (congrFun (hFx.2 4 rfl) _).trans (e_le)) (at0 := at1) (e_at0 := show Gx 10 = at1 from (ex_at1)) (fk := fk1) (e_fk := show Gx 16 = fk1 from (ex_fk1)) (tk0 := tk1) (e_tk0 := show Gx 11 = tk1 from (ex_tk1))  (h_g := ⟨(by decide), (by decide)⟩)  (p_0 := by omega)) (fun o V' hq => ?_)
      obtain ⟨G345, A346, at2_347, tk2_348, fk2_349, rfl, rfl, hW350, hF351, e352, e353, e354, p355, p356, q357⟩ := hq
      have hF358 := Fr_tr hFx hF351 (Fr_sub (by decide)) (Fr_sub (by decide))
      have hP359 := Pf_f hPx hF351 (by decide)
      have bat2_347 : (0 : Int) ≤ at2_347 ∧ at2_347 ≤ 3002 := e352 ▸ hW350.1 10
      have ztk2_348 := tz_b tk2_348
      have btk2_348 : (0 : Int) ≤ tk2_348 ∧ tk2_348 ≤ 5 := e353 ▸ hW350.1 11
      have bfk2_349 : (0 : Int) ≤ fk2_349 ∧ fk2_349 ≤ 6 := e354 ▸ hW350.1 16
      refine .inl ⟨rfl, ?_⟩
      rcases q357 with ⟨a360, a361, a362, a363⟩ | ⟨a364, a365, a366, a367⟩
      · have _q : True := trivial
        have z368 := tz_f (tk2_348)
        exact at_95p L G345 A346 (n) (at2_347) (tk2_348) (fk2_349) (nd1) (op1) (sy1) (na1) gL_0 gL_1 gL_2 hW350 hF358 hP359 ((e352)) ((e353)) ((e354)) (((hF351.1 31 rfl).trans (ex_nd1))) (((hF351.1 15 rfl).trans (ex_op1))) (((hF351.1 19 rfl).trans (ex_sy1))) (((hF351.1 28 rfl).trans (ex_na1))) (((hF351.1 9 rfl).trans (fx_9))) (((hF351.1 29 rfl).trans (fx_29))) (by omega) (by omega) (by omega) (by omega) (by omega) (by omega) (by omega) (by omega) (by omega)
      · have _q : True := trivial
        have z369 := tz_f (tk2_348)
        exact at_95 L G345 A346 (n) (at2_347) (tk2_348) (fk2_349) (nd1) (op1) (sy1) (na1) (sa1) gL_0 gL_1 gL_2 hW350 hF358 hP359 ((e352)) ((e353)) ((e354)) (((hF351.1 31 rfl).trans (ex_nd1))) (((hF351.1 15 rfl).trans (ex_op1))) (((hF351.1 19 rfl).trans (ex_sy1))) (((hF351.1 28 rfl).trans (ex_na1))) ((congrFun (hF351.2 17 rfl) _).trans (ex_sa1)) (((hF351.1 9 rfl).trans (fx_9))) (((hF351.1 29 rfl).trans (fx_29))) (by omega) (by omega) (by omega) (by omega) (by omega) (by omega) (by omega) (by omega) (by omega) (by omega) (by omega)
    · have _q : True := trivial
      refine jx_vr (pc' := 95) (as := [.int (i32 (0))]) (st := []) rfl rfl rfl rfl ⟨rfl, rfl, Nat.le_of_ble_eq_true rfl⟩ rfl rfl (c_need (dd := d) (hd := by omega) (hW := hWx) (g := 0) (ln := ln) (e_ln := show Gx 9 = ln from (fx_9)) (le := le) (e_le := show Ax 4 (ln).toNat = le from (congrFun (hFx.2 4 rfl) _).trans (e_le)) (at0 := at1) (e_at0 := show Gx 10 = at1 from (ex_at1)) (fk := fk1) (e_fk := show Gx 16 = fk1 from (ex_fk1)) (tk0 := tk1) (e_tk0 := show Gx 11 = tk1 from (ex_tk1))  (h_g := ⟨(by decide), (by decide)⟩)  (p_0 := by omega)) (fun o V' hq => ?_)
      obtain ⟨G370, A371, at2_372, tk2_373, fk2_374, rfl, rfl, hW375, hF376, e377, e378, e379, p380, p381, q382⟩ := hq
      have hF383 := Fr_tr hFx hF376 (Fr_sub (by decide)) (Fr_sub (by decide))
      have hP384 := Pf_f hPx hF376 (by decide)
      have bat2_372 : (0 : Int) ≤ at2_372 ∧ at2_372 ≤ 3002 := e377 ▸ hW375.1 10
      have ztk2_373 := tz_b tk2_373
      have btk2_373 : (0 : Int) ≤ tk2_373 ∧ tk2_373 ≤ 5 := e378 ▸ hW375.1 11
      have bfk2_374 : (0 : Int) ≤ fk2_374 ∧ fk2_374 ≤ 6 := e379 ▸ hW375.1 16
      refine .inl ⟨rfl, ?_⟩
      rcases q382 with ⟨a385, a386, a387, a388⟩ | ⟨a389, a390, a391, a392⟩
      · have _q : True := trivial
        have z393 := tz_f (tk2_373)
        exact at_95p L G370 A371 (n) (at2_372) (tk2_373) (fk2_374) (nd1) (op1) (sy1) (na1) gL_0 gL_1 gL_2 hW375 hF383 hP384 ((e377)) ((e378)) ((e379)) (((hF376.1 31 rfl).trans (ex_nd1))) (((hF376.1 15 rfl).trans (ex_op1))) (((hF376.1 19 rfl).trans (ex_sy1))) (((hF376.1 28 rfl).trans (ex_na1))) (((hF376.1 9 rfl).trans (fx_9))) (((hF376.1 29 rfl).trans (fx_29))) (by omega) (by omega) (by omega) (by omega) (by omega) (by omega) (by omega) (by omega) (by omega)
      · have _q : True := trivial
        exfalso
        omega
  have at_85p : ∀ (L : jL) (Gx : Nat → Int) (Ax : Nat → Nat → Int) (n at1 tk1 fk1 nd1 op1 sy1 na1 : Int), jGet L 0 = some (.ref 66) → jGet L 1 = some (.int (i32 (lv))) → jGet L 2 = some (.int (i32 n)) → Wk Gx Ax → Fr [9, 10, 11, 12, 13, 14, 15, 16, 17, 18, 19, 28, 29, 31] [6, 7, 8, 9, 10, 11, 12, 14, 15, 16, 17, 18, 19, 20, 21, 22, 23, 24, 28] G A Gx Ax → Pf nd A Ax → Gx 10 = at1 → Gx 11 = tk1 → Gx 16 = fk1 → Gx 31 = nd1 → Gx 15 = op1 → Gx 19 = sy1 → Gx 28 = na1 → Gx 9 = ln → Gx 29 = vi → ((-2147483648 : Int) ≤ n ∧ n ≤ 2147483647) → (1 ≤ fk1) → (at0 ≤ at1) → (at1 ≤ le) → (nd ≤ n ∧ n ≤ 6998 ∧ n < nd1) → (sy ≤ sy1) → (sy1 ≤ na1 + 2) → (0 ≤ op1 ∧ op1 ≤ 9) → (nd1 - nd ≤ 2 * at1 - 2 * at0 + 8) → wj X d jm299 (85, L, [], rV c0 c1 Gx Ax T) (fun o V' => ∃ (G' : Nat → Int) (A' : Nat → Nat → Int) (r : Int) (ln2 : Int) (at2 : Int) (fk2 : Int) (nd2 : Int) (sy2 : Int) (na2 : Int) (vi2 : Int) (lf2 : Int), V' = rV c0 c1 G' A' T ∧ o = .inl (some (.int (i32 r))) ∧ Wk G' A' ∧ Fr [9, 10, 11, 12, 13, 14, 15, 16, 17, 18, 19, 28, 29, 31] [6, 7, 8, 9, 10, 11, 12, 14, 15, 16, 17, 18, 19, 20, 21, 22, 23, 24, 28] G A G' A' ∧ Pf nd A A' ∧ ((-2147483648 : Int) ≤ r ∧ r ≤ 2147483647) ∧ G' 9 = ln2 ∧ G' 10 = at2 ∧ G' 16 = fk2 ∧ G' 31 = nd2 ∧ G' 19 = sy2 ∧ G' 28 = na2 ∧ G' 29 = vi2 ∧ A' 3 (ln2).toNat = lf2 ∧ (at0 ≤ at2) ∧ (nd ≤ nd2) ∧ (sy ≤ sy2) ∧ (sy2 ≤ na2 + 2) ∧ (vi ≤ vi2) ∧ (vi2 ≤ vi + 1) ∧ (0 ≤ r) ∧ (r ≤ 6999) ∧ (ln ≤ ln2) ∧ (ln2 ≤ li) ∧ (((1 ≤ fk2) ∧ (nd2 - nd ≤ 2 * at2 - (2 * at0 - tz tk0) + 14)) ∨ ((fk2 = 0) ∧ (vi2 = vi) ∧ (ln < ln2) ∧ (nd2 - nd ≤ 2 * at2 - (2 * at0 - tz tk0)) ∧ (at2 < lf2 ∨ li ≤ ln2) ∧ (nd ≤ r) ∧ (r < nd2)))) := by
    intro L Gx Ax n at1 tk1 fk1 nd1 op1 sy1 na1 gL_0 gL_1 gL_2 hWx hFx hPx ex_at1 ex_tk1 ex_fk1 ex_nd1 ex_op1 ex_sy1 ex_na1 fx_9 fx_29 rx_n iv_0 iv_1 iv_2 iv_3 iv_4 iv_5 iv_6 iv_7
    have b_at1 : (0 : Int) ≤ at1 ∧ at1 ≤ 3002 := ex_at1 ▸ hWx.1 10
    have z_tk1 := tz_f tk1
    have b_tk1 : (0 : Int) ≤ tk1 ∧ tk1 ≤ 5 := ex_tk1 ▸ hWx.1 11
    have b_fk1 : (0 : Int) ≤ fk1 ∧ fk1 ≤ 6 := ex_fk1 ▸ hWx.1 16
    have b_nd1 : (0 : Int) ≤ nd1 ∧ nd1 ≤ 6999 := ex_nd1 ▸ hWx.1 31
    have b_op1 : (-2147483648 : Int) ≤ op1 ∧ op1 ≤ 2147483647 := ex_op1 ▸ hWx.1 15
    have b_sy1 : (0 : Int) ≤ sy1 ∧ sy1 ≤ 202 := ex_sy1 ▸ hWx.1 19
    have b_na1 : (0 : Int) ≤ na1 ∧ na1 ≤ 200 := ex_na1 ▸ hWx.1 28
    refine jx_ld (pc' := 86) (l' := L) (st' := [.ref 66]) rfl (jl_aloadn gL_0) ?_
    refine jx_ld (pc' := 87) (l' := L) (st' := [.ref 66, .ref 66]) rfl (jl_aloadn gL_0) ?_
    refine jx_ar (pc' := 89) (st' := [.int (i32 (61)), .ref 66, .ref 66]) rfl rfl rfl rfl ?_
    have b394 : (-2147483648 : Int) ≤ Gx 13 ∧ Gx 13 ≤ 2147483647 := hWx.1 13
    refine jx_vr (pc' := 92) (as := [.int (i32 (61))]) (st := [.ref 66]) rfl rfl rfl rfl ⟨rfl, rfl, Nat.le_of_ble_eq_true rfl⟩ rfl rfl (c_is (dd := d) (hd := by omega) (hW := hWx) (k := 61) (tk := tk1) (e_tk := show Gx 11 = tk1 from (ex_tk1)) (tn := Gx 13) (e_tn := show Gx 13 = Gx 13 from rfl)  (h_k := ⟨(by decide), (by decide)⟩)  ) (fun o V' hq => ?_)
    obtain ⟨r395, rfl, rfl, b396, q397⟩ := hq
    refine .inr ⟨_, rfl, ?_⟩
    rcases q397 with ⟨rfl, a398, a399, a400⟩ | rfl
    · have _q : True := trivial
      refine jx_vr (pc' := 95) (as := [.int (i32 (1))]) (st := []) rfl rfl rfl rfl ⟨rfl, rfl, Nat.le_of_ble_eq_true rfl⟩ rfl rfl (c_need (dd := d) (hd := by omega) (hW := hWx) (g := 1) (ln := ln) (e_ln := show Gx 9 = ln from (fx_9)) (le := le) (e_le := show Ax 4 (ln).toNat = le from (congrFun (hFx.2 4 rfl) _).trans (e_le)) (at0 := at1) (e_at0 := show Gx 10 = at1 from (ex_at1)) (fk := fk1) (e_fk := show Gx 16 = fk1 from (ex_fk1)) (tk0 := tk1) (e_tk0 := show Gx 11 = tk1 from (ex_tk1))  (h_g := ⟨(by decide), (by decide)⟩)  (p_0 := by omega)) (fun o V' hq => ?_)
      obtain ⟨G401, A402, at2_403, tk2_404, fk2_405, rfl, rfl, hW406, hF407, e408, e409, e410, p411, p412, q413⟩ := hq
      have hF414 := Fr_tr hFx hF407 (Fr_sub (by decide)) (Fr_sub (by decide))
      have hP415 := Pf_f hPx hF407 (by decide)
      have bat2_403 : (0 : Int) ≤ at2_403 ∧ at2_403 ≤ 3002 := e408 ▸ hW406.1 10
      have ztk2_404 := tz_b tk2_404
      have btk2_404 : (0 : Int) ≤ tk2_404 ∧ tk2_404 ≤ 5 := e409 ▸ hW406.1 11
      have bfk2_405 : (0 : Int) ≤ fk2_405 ∧ fk2_405 ≤ 6 := e410 ▸ hW406.1 16
      refine .inl ⟨rfl, ?_⟩
      rcases q413 with ⟨a416, a417, a418, a419⟩ | ⟨a420, a421, a422, a423⟩
      · have _q : True := trivial
        have z424 := tz_f (tk2_404)
        exact at_95p L G401 A402 (n) (at2_403) (tk2_404) (fk2_405) (nd1) (op1) (sy1) (na1) gL_0 gL_1 gL_2 hW406 hF414 hP415 ((e408)) ((e409)) ((e410)) (((hF407.1 31 rfl).trans (ex_nd1))) (((hF407.1 15 rfl).trans (ex_op1))) (((hF407.1 19 rfl).trans (ex_sy1))) (((hF407.1 28 rfl).trans (ex_na1))) (((hF407.1 9 rfl).trans (fx_9))) (((hF407.1 29 rfl).trans (fx_29))) (by omega) (by omega) (by omega) (by omega) (by omega) (by omega) (by omega) (by omega) (by omega)
      · have _q : True := trivial
        exfalso
        omega
    · have _q : True := trivial
      refine jx_vr (pc' := 95) (as := [.int (i32 (0))]) (st := []) rfl rfl rfl rfl ⟨rfl, rfl, Nat.le_of_ble_eq_true rfl⟩ rfl rfl (c_need (dd := d) (hd := by omega) (hW := hWx) (g := 0) (ln := ln) (e_ln := show Gx 9 = ln from (fx_9)) (le := le) (e_le := show Ax 4 (ln).toNat = le from (congrFun (hFx.2 4 rfl) _).trans (e_le)) (at0 := at1) (e_at0 := show Gx 10 = at1 from (ex_at1)) (fk := fk1) (e_fk := show Gx 16 = fk1 from (ex_fk1)) (tk0 := tk1) (e_tk0 := show Gx 11 = tk1 from (ex_tk1))  (h_g := ⟨(by decide), (by decide)⟩)  (p_0 := by omega)) (fun o V' hq => ?_)
      obtain ⟨G425, A426, at2_427, tk2_428, fk2_429, rfl, rfl, hW430, hF431, e432, e433, e434, p435, p436, q437⟩ := hq
      have hF438 := Fr_tr hFx hF431 (Fr_sub (by decide)) (Fr_sub (by decide))
      have hP439 := Pf_f hPx hF431 (by decide)
      have bat2_427 : (0 : Int) ≤ at2_427 ∧ at2_427 ≤ 3002 := e432 ▸ hW430.1 10
      have ztk2_428 := tz_b tk2_428
      have btk2_428 : (0 : Int) ≤ tk2_428 ∧ tk2_428 ≤ 5 := e433 ▸ hW430.1 11
      have bfk2_429 : (0 : Int) ≤ fk2_429 ∧ fk2_429 ≤ 6 := e434 ▸ hW430.1 16
      refine .inl ⟨rfl, ?_⟩
      rcases q437 with ⟨a440, a441, a442, a443⟩ | ⟨a444, a445, a446, a447⟩
      · have _q : True := trivial
        have z448 := tz_f (tk2_428)
        exact at_95p L G425 A426 (n) (at2_427) (tk2_428) (fk2_429) (nd1) (op1) (sy1) (na1) gL_0 gL_1 gL_2 hW430 hF438 hP439 ((e432)) ((e433)) ((e434)) (((hF431.1 31 rfl).trans (ex_nd1))) (((hF431.1 15 rfl).trans (ex_op1))) (((hF431.1 19 rfl).trans (ex_sy1))) (((hF431.1 28 rfl).trans (ex_na1))) (((hF431.1 9 rfl).trans (fx_9))) (((hF431.1 29 rfl).trans (fx_29))) (by omega) (by omega) (by omega) (by omega) (by omega) (by omega) (by omega) (by omega) (by omega)
      · have _q : True := trivial
        exfalso
        omega
  refine jx_ld (pc' := 1) (l' := [(0, .ref 66), (1, .int (i32 (lv)))]) (st' := [.ref 66]) rfl (jl_aloadn rfl) ?_
  refine jx_vr (pc' := 4) (as := []) (st := []) rfl rfl rfl rfl ⟨rfl, rfl, Nat.le_of_ble_eq_true rfl⟩ rfl rfl (c_next (dd := d) (hd := by omega) (hW := hW)  (ln := ln) (e_ln := show G 9 = ln from (e_ln)) (le := le) (e_le := show A 4 (ln).toNat = le from (e_le)) (at0 := at0) (e_at0 := show G 10 = at0 from (e_at0))    (p_0 := by omega)) (fun o V' hq => ?_)
  obtain ⟨G449, A450, at2_451, tk2_452, rfl, rfl, hW453, hF454, e455, e456, p457, p458, p459, -⟩ := hq
  have hF461 := Fr_tr hF0 hF454 (Fr_sub (by decide)) (Fr_sub (by decide))
  have hP462 := Pf_f hP0 hF454 (by decide)
  have bat2_451 : (0 : Int) ≤ at2_451 ∧ at2_451 ≤ 3002 := e455 ▸ hW453.1 10
  have ztk2_452 := tz_b tk2_452
  have btk2_452 : (0 : Int) ≤ tk2_452 ∧ tk2_452 ≤ 5 := e456 ▸ hW453.1 11
  refine .inl ⟨rfl, ?_⟩
  refine jx_ld (pc' := 5) (l' := [(0, .ref 66), (1, .int (i32 (lv)))]) (st' := [.ref 66]) rfl (jl_aloadn rfl) ?_
  have z463 := tz_f (tk2_452)
  refine jr_get (pc' := 8) (i := 11) (v := .int (i32 (tk2_452))) rfl rfl (by decide) (rFv_eq (by decide) (show G449 11 = tk2_452 from (e456))) rfl ?_
  refine jx_if_ne (pc' := 11) (tg := 37) rfl rfl rfl (Int.le_trans (by decide : (-2147483648 : Int) ≤ 0) btk2_452.1) (Int.le_trans btk2_452.2 (by decide : (5 : Int) ≤ 2147483647)) (fun h464 => ?_) (fun h464 => ?_)
  · have _q := h464
    refine jx_ld (pc' := 38) (l' := [(0, .ref 66), (1, .int (i32 (lv)))]) (st' := [.ref 66]) rfl (jl_aloadn rfl) ?_
    have z465 := tz_f (tk2_452)
    refine jr_get (pc' := 41) (i := 11) (v := .int (i32 (tk2_452))) rfl rfl (by decide) (rFv_eq (by decide) (show G449 11 = tk2_452 from (e456))) rfl ?_
    refine jx_ar (pc' := 42) (st' := [.int (i32 (1)), .int (i32 (tk2_452))]) rfl rfl rfl rfl ?_
    refine jx_icmp_eq (pc' := 45) (tg := 56) rfl rfl rfl (Int.le_trans (by decide : (-2147483648 : Int) ≤ 0) btk2_452.1) (Int.le_trans btk2_452.2 (by decide : (5 : Int) ≤ 2147483647)) (by decide) (by decide) (fun h466 => ?_) (fun h466 => ?_)
    · have _q := h466
      refine jx_ld (pc' := 57) (l' := [(0, .ref 66), (1, .int (i32 (lv)))]) (st' := [.ref 66]) rfl (jl_aloadn rfl) ?_
      refine jx_ar (pc' := 59) (st' := [.int (i32 (29)), .ref 66]) rfl rfl rfl rfl ?_
      refine jx_ar (pc' := 60) (st' := [.int (i32 (0)), .int (i32 (29)), .ref 66]) rfl rfl rfl rfl ?_
      refine jx_ar (pc' := 61) (st' := [.int (i32 (0)), .int (i32 (0)), .int (i32 (29)), .ref 66]) rfl rfl rfl rfl ?_
      refine jx_ar (pc' := 62) (st' := [.int (i32 (0)), .int (i32 (0)), .int (i32 (0)), .int (i32 (29)), .ref 66]) rfl rfl rfl rfl ?_
      refine jx_ar (pc' := 63) (st' := [.int (i32 (0)), .int (i32 (0)), .int (i32 (0)), .int (i32 (0)), .int (i32 (29)), .ref 66]) rfl rfl rfl rfl ?_
      refine jx_vr (pc' := 66) (as := [.int (i32 (29)), .int (i32 (0)), .int (i32 (0)), .int (i32 (0)), .int (i32 (0))]) (st := []) rfl rfl rfl rfl ⟨rfl, rfl, Nat.le_of_ble_eq_true rfl⟩ rfl rfl (c_node (dd := d) (hd := by omega) (hW := hW453) (kind := 29) (a := 0) (b := 0) (c := 0) (e := 0) (nd := nd) (e_nd := show G449 31 = nd from ((hF454.1 31 rfl).trans (e_nd)))  (h_kind := ⟨(by decide), (by decide)⟩) (h_a := ⟨(by decide), (by decide)⟩) (h_b := ⟨(by decide), (by decide)⟩) (h_c := ⟨(by decide), (by decide)⟩) (h_e := ⟨(by decide), (by decide)⟩)  (p_0 := by omega) (p_1 := by omega)) (fun o V' hq => ?_)
      obtain ⟨G467, A468, nd2_469, rfl, rfl, hW470, hF471, hQ472, e473, p474, -⟩ := hq
      have hF476 := Fr_tr hF461 hF471 (Fr_sub (by decide)) (Fr_sub (by decide))
      have hP477 := Pf_tr hP462 hQ472 (by omega)
      have bnd2_469 : (0 : Int) ≤ nd2_469 ∧ nd2_469 ≤ 6999 := e473 ▸ hW470.1 31
      refine .inr ⟨_, rfl, ?_⟩
      refine jx_ld (pc' := 67) (l' := jSto1 [(0, .ref 66), (1, .int (i32 (lv)))] 2 (.int (i32 (nd)))) (st' := []) rfl rfl ?_
      obtain ⟨L478, eL478⟩ : ∃ q, q = jSto1 [(0, .ref 66), (1, .int (i32 (lv)))] 2 (.int (i32 (nd))) := ⟨_, rfl⟩
      rw [← eL478]
      have gL478_0 : jGet L478 0 = some (.ref 66) := eL478 ▸ jg_ne (by decide) (rfl : jGet [(0, .ref 66), (1, .int (i32 (lv)))] 0 = some (.ref 66)) rfl
      have gL478_1 : jGet L478 1 = some (.int (i32 (lv))) := eL478 ▸ jg_ne (by decide) (rfl : jGet [(0, .ref 66), (1, .int (i32 (lv)))] 1 = some (.int (i32 (lv)))) rfl
      have gL478_2 : jGet L478 2 = some (.int (i32 (nd))) := eL478 ▸ jg_eq
      refine jx_ld (pc' := 68) (l' := L478) (st' := [.ref 66]) rfl (jl_aloadn gL478_0) ?_
      refine jr_get (pc' := 71) (i := 34) (v := .ref 84) rfl rfl (by decide) rfl rfl ?_
      refine jx_ld (pc' := 72) (l' := L478) (st' := [.int (i32 (nd)), .ref 84]) rfl (jl_iloadn gL478_2) ?_
      refine jx_ld (pc' := 73) (l' := L478) (st' := [.ref 66, .int (i32 (nd)), .ref 84]) rfl (jl_aloadn gL478_0) ?_
      refine jx_ar (pc' := 75) (st' := [.int (i32 (10)), .ref 66, .int (i32 (nd)), .ref 84]) rfl rfl rfl rfl ?_
      refine jx_ar (pc' := 76) (st' := [.int (i32 (0)), .int (i32 (10)), .ref 66, .int (i32 (nd)), .ref 84]) rfl rfl rfl rfl ?_
      refine jx_vr (pc' := 79) (as := [.int (i32 (10)), .int (i32 (0))]) (st := [.int (i32 (nd)), .ref 84]) rfl rfl rfl rfl ⟨rfl, rfl, Nat.le_of_ble_eq_true rfl⟩ rfl rfl (c_newName (dd := d) (hd := by omega) (hW := hW470) (kind := 10) (many := 0) (sy := sy) (e_sy := show G467 19 = sy from ((hF471.1 19 rfl).trans ((hF454.1 19 rfl).trans (e_sy)))) (na := na) (e_na := show G467 28 = na from ((hF471.1 28 rfl).trans ((hF454.1 28 rfl).trans (e_na)))) (fk := fk) (e_fk := show G467 16 = fk from ((hF471.1 16 rfl).trans ((hF454.1 16 rfl).trans (e_fk))))  (h_kind := ⟨(by decide), (by decide)⟩) (h_many := ⟨(by decide), (by decide)⟩)  (p_0 := by omega) (p_1 := by omega)) (fun o V' hq => ?_)
      obtain ⟨G479, A480, r481, sy2_482, na2_483, fk2_484, rfl, rfl, hW485, hF486, b487, e488, e489, e490, q491⟩ := hq
      have hF492 := Fr_tr hF476 hF486 (Fr_sub (by decide)) (Fr_sub (by decide))
      have hP493 := Pf_f hP477 hF486 (by decide)
      have bsy2_482 : (0 : Int) ≤ sy2_482 ∧ sy2_482 ≤ 202 := e488 ▸ hW485.1 19
      have bna2_483 : (0 : Int) ≤ na2_483 ∧ na2_483 ≤ 200 := e489 ▸ hW485.1 28
      have bfk2_484 : (0 : Int) ≤ fk2_484 ∧ fk2_484 ≤ 6 := e490 ▸ hW485.1 16
      refine .inr ⟨_, rfl, ?_⟩
      rcases q491 with ⟨a494, a495, a496, a497, a498⟩ | ⟨a499, a500, a501, a502⟩
      · have _q : True := trivial
        refine jr_st (pc' := 80) (i := 17) (m := 7000) (z := nd) (y := r481) rfl (by decide) rfl (by decide) (by omega) (by omega) rfl ?_
        have hW504 : Wk G479 (uA A480 17 (nd).toNat (r481)) := Wk_a hW485 (show (-2147483648 : Int) ≤ r481 by omega) (show r481 ≤ (2147483647 : Int) by omega)
        have hF505 := Fr_a (z := r481) (k := 17) (n := (nd).toNat) hF492 (by decide)
        obtain ⟨A503, eA503⟩ : ∃ q, q = uA A480 17 (nd).toNat (r481) := ⟨_, rfl⟩
        rw [← eA503]
        rw [← eA503] at hW504 hF505
        have q506 : A503 17 (nd).toNat = r481 := by rw [eA503]; exact uA_eq
        have hP507 : Pf nd A A503 := eA503 ▸ Pf_a hP493 (z := nd) (by omega) (by omega)
        refine jx_ld (pc' := 81) (l' := L478) (st' := [.ref 66]) rfl (jl_aloadn gL478_0) ?_
        refine jx_ar (pc' := 82) (st' := [.int (i32 (1)), .ref 66]) rfl rfl rfl rfl ?_
        refine jx_vr (pc' := 85) (as := [.int (i32 (1))]) (st := []) rfl rfl rfl rfl ⟨rfl, rfl, Nat.le_of_ble_eq_true rfl⟩ rfl rfl (c_need (dd := d) (hd := by omega) (hW := hW504) (g := 1) (ln := ln) (e_ln := show G479 9 = ln from ((hF486.1 9 rfl).trans ((hF471.1 9 rfl).trans ((hF454.1 9 rfl).trans (e_ln))))) (le := le) (e_le := show A503 4 (ln).toNat = le from (congrFun (((congrFun eA503 4).trans (uA_ne (by decide))).trans ((hF486.2 4 rfl).trans ((hF471.2 4 rfl).trans (hF454.2 4 rfl)))) _).trans (e_le)) (at0 := at2_451) (e_at0 := show G479 10 = at2_451 from ((hF486.1 10 rfl).trans ((hF471.1 10 rfl).trans (e455)))) (fk := fk2_484) (e_fk := show G479 16 = fk2_484 from (e490)) (tk0 := tk2_452) (e_tk0 := show G479 11 = tk2_452 from ((hF486.1 11 rfl).trans ((hF471.1 11 rfl).trans (e456))))  (h_g := ⟨(by decide), (by decide)⟩)  (p_0 := by omega)) (fun o V' hq => ?_)
        obtain ⟨G508, A509, at2_510, tk2_511, fk2_512, rfl, rfl, hW513, hF514, e515, e516, e517, p518, p519, q520⟩ := hq
        have hF521 := Fr_tr hF505 hF514 (Fr_sub (by decide)) (Fr_sub (by decide))
        have hP522 := Pf_f hP507 hF514 (by decide)
        have bat2_510 : (0 : Int) ≤ at2_510 ∧ at2_510 ≤ 3002 := e515 ▸ hW513.1 10
        have ztk2_511 := tz_b tk2_511
        have btk2_511 : (0 : Int) ≤ tk2_511 ∧ tk2_511 ≤ 5 := e516 ▸ hW513.1 11
        have bfk2_512 : (0 : Int) ≤ fk2_512 ∧ fk2_512 ≤ 6 := e517 ▸ hW513.1 16
        refine .inl ⟨rfl, ?_⟩
        rcases q520 with ⟨a523, a524, a525, a526⟩ | ⟨a527, a528, a529, a530⟩
        · have _q : True := trivial
          have z531 := tz_f (tk2_511)
          exact at_85p L478 G508 A509 (nd) (at2_510) (tk2_511) (fk2_512) (nd2_469) (op0) (sy2_482) (na2_483) gL478_0 gL478_1 gL478_2 hW513 hF521 hP522 ((e515)) ((e516)) ((e517)) (((hF514.1 31 rfl).trans ((hF486.1 31 rfl).trans (e473)))) (((hF514.1 15 rfl).trans ((hF486.1 15 rfl).trans ((hF471.1 15 rfl).trans ((hF454.1 15 rfl).trans (e_op0)))))) (((hF514.1 19 rfl).trans (e488))) (((hF514.1 28 rfl).trans (e489))) (((hF514.1 9 rfl).trans ((hF486.1 9 rfl).trans ((hF471.1 9 rfl).trans ((hF454.1 9 rfl).trans (e_ln)))))) (((hF514.1 29 rfl).trans ((hF486.1 29 rfl).trans ((hF471.1 29 rfl).trans ((hF454.1 29 rfl).trans (e_vi)))))) (by omega) (by omega) (by omega) (by omega) (by omega) (by omega) (by omega) (by omega) (by omega)
        · have _q : True := trivial
          have z532 := tz_f (tk2_511)
          exact at_85 L478 G508 A509 (nd) (at2_510) (tk2_511) (fk2_512) (nd2_469) (op0) (sy2_482) (na2_483) (r481) gL478_0 gL478_1 gL478_2 hW513 hF521 hP522 ((e515)) ((e516)) ((e517)) (((hF514.1 31 rfl).trans ((hF486.1 31 rfl).trans (e473)))) (((hF514.1 15 rfl).trans ((hF486.1 15 rfl).trans ((hF471.1 15 rfl).trans ((hF454.1 15 rfl).trans (e_op0)))))) (((hF514.1 19 rfl).trans (e488))) (((hF514.1 28 rfl).trans (e489))) ((congrFun (hF514.2 17 rfl) _).trans (q506)) (((hF514.1 9 rfl).trans ((hF486.1 9 rfl).trans ((hF471.1 9 rfl).trans ((hF454.1 9 rfl).trans (e_ln)))))) (((hF514.1 29 rfl).trans ((hF486.1 29 rfl).trans ((hF471.1 29 rfl).trans ((hF454.1 29 rfl).trans (e_vi)))))) (by omega) (by omega) (by omega) (by omega) (by omega) (by omega) (by omega) (by omega) (by omega) (by omega) (by omega)
      · have _q : True := trivial
        refine jr_st (pc' := 80) (i := 17) (m := 7000) (z := nd) (y := r481) rfl (by decide) rfl (by decide) (by omega) (by omega) rfl ?_
        have hW534 : Wk G479 (uA A480 17 (nd).toNat (r481)) := Wk_a hW485 (show (-2147483648 : Int) ≤ r481 by omega) (show r481 ≤ (2147483647 : Int) by omega)
        have hF535 := Fr_a (z := r481) (k := 17) (n := (nd).toNat) hF492 (by decide)
        obtain ⟨A533, eA533⟩ : ∃ q, q = uA A480 17 (nd).toNat (r481) := ⟨_, rfl⟩
        rw [← eA533]
        rw [← eA533] at hW534 hF535
        have q536 : A533 17 (nd).toNat = r481 := by rw [eA533]; exact uA_eq
        have hP537 : Pf nd A A533 := eA533 ▸ Pf_a hP493 (z := nd) (by omega) (by omega)
        refine jx_ld (pc' := 81) (l' := L478) (st' := [.ref 66]) rfl (jl_aloadn gL478_0) ?_
        refine jx_ar (pc' := 82) (st' := [.int (i32 (1)), .ref 66]) rfl rfl rfl rfl ?_
        refine jx_vr (pc' := 85) (as := [.int (i32 (1))]) (st := []) rfl rfl rfl rfl ⟨rfl, rfl, Nat.le_of_ble_eq_true rfl⟩ rfl rfl (c_need (dd := d) (hd := by omega) (hW := hW534) (g := 1) (ln := ln) (e_ln := show G479 9 = ln from ((hF486.1 9 rfl).trans ((hF471.1 9 rfl).trans ((hF454.1 9 rfl).trans (e_ln))))) (le := le) (e_le := show A533 4 (ln).toNat = le from (congrFun (((congrFun eA533 4).trans (uA_ne (by decide))).trans ((hF486.2 4 rfl).trans ((hF471.2 4 rfl).trans (hF454.2 4 rfl)))) _).trans (e_le)) (at0 := at2_451) (e_at0 := show G479 10 = at2_451 from ((hF486.1 10 rfl).trans ((hF471.1 10 rfl).trans (e455)))) (fk := fk2_484) (e_fk := show G479 16 = fk2_484 from (e490)) (tk0 := tk2_452) (e_tk0 := show G479 11 = tk2_452 from ((hF486.1 11 rfl).trans ((hF471.1 11 rfl).trans (e456))))  (h_g := ⟨(by decide), (by decide)⟩)  (p_0 := by omega)) (fun o V' hq => ?_)
        obtain ⟨G538, A539, at2_540, tk2_541, fk2_542, rfl, rfl, hW543, hF544, e545, e546, e547, p548, p549, q550⟩ := hq
        have hF551 := Fr_tr hF535 hF544 (Fr_sub (by decide)) (Fr_sub (by decide))
        have hP552 := Pf_f hP537 hF544 (by decide)
        have bat2_540 : (0 : Int) ≤ at2_540 ∧ at2_540 ≤ 3002 := e545 ▸ hW543.1 10
        have ztk2_541 := tz_b tk2_541
        have btk2_541 : (0 : Int) ≤ tk2_541 ∧ tk2_541 ≤ 5 := e546 ▸ hW543.1 11
        have bfk2_542 : (0 : Int) ≤ fk2_542 ∧ fk2_542 ≤ 6 := e547 ▸ hW543.1 16
        refine .inl ⟨rfl, ?_⟩
        rcases q550 with ⟨a553, a554, a555, a556⟩ | ⟨a557, a558, a559, a560⟩
        · have _q : True := trivial
          have z561 := tz_f (tk2_541)
          exact at_85p L478 G538 A539 (nd) (at2_540) (tk2_541) (fk2_542) (nd2_469) (op0) (sy2_482) (na2_483) gL478_0 gL478_1 gL478_2 hW543 hF551 hP552 ((e545)) ((e546)) ((e547)) (((hF544.1 31 rfl).trans ((hF486.1 31 rfl).trans (e473)))) (((hF544.1 15 rfl).trans ((hF486.1 15 rfl).trans ((hF471.1 15 rfl).trans ((hF454.1 15 rfl).trans (e_op0)))))) (((hF544.1 19 rfl).trans (e488))) (((hF544.1 28 rfl).trans (e489))) (((hF544.1 9 rfl).trans ((hF486.1 9 rfl).trans ((hF471.1 9 rfl).trans ((hF454.1 9 rfl).trans (e_ln)))))) (((hF544.1 29 rfl).trans ((hF486.1 29 rfl).trans ((hF471.1 29 rfl).trans ((hF454.1 29 rfl).trans (e_vi)))))) (by omega) (by omega) (by omega) (by omega) (by omega) (by omega) (by omega) (by omega) (by omega)
        · have _q : True := trivial
          exfalso
          omega
    · have _q := h466
      refine jx_ld (pc' := 46) (l' := [(0, .ref 66), (1, .int (i32 (lv)))]) (st' := [.ref 66]) rfl (jl_aloadn rfl) ?_
      refine jx_ar (pc' := 47) (st' := [.int (i32 (1)), .ref 66]) rfl rfl rfl rfl ?_
      refine jx_ld (pc' := 48) (l' := [(0, .ref 66), (1, .int (i32 (lv)))]) (st' := [.ref 66, .int (i32 (1)), .ref 66]) rfl (jl_aloadn rfl) ?_
      have b562 : (-3000 : Int) ≤ G449 12 ∧ G449 12 ≤ 3002 := hW453.1 12
      refine jr_get (pc' := 51) (i := 12) (v := .int (i32 (G449 12))) rfl rfl (by decide) rfl rfl ?_
      refine jx_vr (pc' := 54) (as := [.int (i32 (1)), .int (i32 (G449 12))]) (st := []) rfl rfl rfl rfl ⟨rfl, rfl, Nat.le_of_ble_eq_true rfl⟩ rfl rfl (c_fail (dd := d) (hd := by omega) (hW := hW453) (kind := 1) (place := G449 12) (fk := fk) (e_fk := show G449 16 = fk from ((hF454.1 16 rfl).trans (e_fk)))  (h_kind := ⟨(by decide), (by decide)⟩) (h_place := ⟨(Int.le_trans (by decide : (-2147483648 : Int) ≤ -3000) b562.1), (Int.le_trans b562.2 (by decide : (3002 : Int) ≤ 2147483647))⟩)  (p_0 := by omega) (p_1 := by omega)) (fun o V' hq => ?_)
      obtain ⟨G563, A564, fk2_565, rfl, rfl, hW566, hF567, e568, p569, -⟩ := hq
      have hF571 := Fr_tr hF461 hF567 (Fr_sub (by decide)) (Fr_sub (by decide))
      have hP572 := Pf_f hP462 hF567 (by decide)
      have bfk2_565 : (0 : Int) ≤ fk2_565 ∧ fk2_565 ≤ 6 := e568 ▸ hW566.1 16
      refine .inl ⟨rfl, ?_⟩
      refine jx_ar (pc' := 55) (st' := [.int (i32 (0))]) rfl rfl rfl rfl ?_
      refine jx_rt (v := some (.int (i32 (0)))) rfl rfl rfl rfl rfl rfl ?_
      exact ⟨_, _, _, ln, at2_451, fk2_565, nd, sy, na, vi, A 3 (ln).toNat, rfl, rfl, hW566, hF571, hP572, by omega, ((hF567.1 9 rfl).trans ((hF454.1 9 rfl).trans (e_ln))), ((hF567.1 10 rfl).trans (e455)), (e568), ((hF567.1 31 rfl).trans ((hF454.1 31 rfl).trans (e_nd))), ((hF567.1 19 rfl).trans ((hF454.1 19 rfl).trans (e_sy))), ((hF567.1 28 rfl).trans ((hF454.1 28 rfl).trans (e_na))), ((hF567.1 29 rfl).trans ((hF454.1 29 rfl).trans (e_vi))), (congrFun ((hF567.2 3 rfl).trans (hF454.2 3 rfl)) _), by omega, by omega, by omega, by omega, by omega, by omega, by omega, by omega, by omega, by omega, by first | exact Or.inl (⟨by omega, by omega⟩) | exact Or.inr ((⟨by omega, by omega, by omega, by omega, by omega, by omega, by omega⟩))⟩
  · have _q := h464
    refine jx_ld (pc' := 12) (l' := [(0, .ref 66), (1, .int (i32 (lv)))]) (st' := [.ref 66]) rfl (jl_aloadn rfl) ?_
    refine jx_ar (pc' := 14) (st' := [.int (i32 (28)), .ref 66]) rfl rfl rfl rfl ?_
    refine jx_ar (pc' := 15) (st' := [.int (i32 (0)), .int (i32 (28)), .ref 66]) rfl rfl rfl rfl ?_
    refine jx_ar (pc' := 16) (st' := [.int (i32 (0)), .int (i32 (0)), .int (i32 (28)), .ref 66]) rfl rfl rfl rfl ?_
    refine jx_ar (pc' := 17) (st' := [.int (i32 (0)), .int (i32 (0)), .int (i32 (0)), .int (i32 (28)), .ref 66]) rfl rfl rfl rfl ?_
    refine jx_ar (pc' := 18) (st' := [.int (i32 (0)), .int (i32 (0)), .int (i32 (0)), .int (i32 (0)), .int (i32 (28)), .ref 66]) rfl rfl rfl rfl ?_
    refine jx_vr (pc' := 21) (as := [.int (i32 (28)), .int (i32 (0)), .int (i32 (0)), .int (i32 (0)), .int (i32 (0))]) (st := []) rfl rfl rfl rfl ⟨rfl, rfl, Nat.le_of_ble_eq_true rfl⟩ rfl rfl (c_node (dd := d) (hd := by omega) (hW := hW453) (kind := 28) (a := 0) (b := 0) (c := 0) (e := 0) (nd := nd) (e_nd := show G449 31 = nd from ((hF454.1 31 rfl).trans (e_nd)))  (h_kind := ⟨(by decide), (by decide)⟩) (h_a := ⟨(by decide), (by decide)⟩) (h_b := ⟨(by decide), (by decide)⟩) (h_c := ⟨(by decide), (by decide)⟩) (h_e := ⟨(by decide), (by decide)⟩)  (p_0 := by omega) (p_1 := by omega)) (fun o V' hq => ?_)
    obtain ⟨G573, A574, nd2_575, rfl, rfl, hW576, hF577, hQ578, e579, p580, -⟩ := hq
    have hF582 := Fr_tr hF461 hF577 (Fr_sub (by decide)) (Fr_sub (by decide))
    have hP583 := Pf_tr hP462 hQ578 (by omega)
    have bnd2_575 : (0 : Int) ≤ nd2_575 ∧ nd2_575 ≤ 6999 := e579 ▸ hW576.1 31
    refine .inr ⟨_, rfl, ?_⟩
    refine jx_ld (pc' := 22) (l' := jSto1 [(0, .ref 66), (1, .int (i32 (lv)))] 2 (.int (i32 (nd)))) (st' := []) rfl rfl ?_
    obtain ⟨L584, eL584⟩ : ∃ q, q = jSto1 [(0, .ref 66), (1, .int (i32 (lv)))] 2 (.int (i32 (nd))) := ⟨_, rfl⟩
    rw [← eL584]
    have gL584_0 : jGet L584 0 = some (.ref 66) := eL584 ▸ jg_ne (by decide) (rfl : jGet [(0, .ref 66), (1, .int (i32 (lv)))] 0 = some (.ref 66)) rfl
    have gL584_1 : jGet L584 1 = some (.int (i32 (lv))) := eL584 ▸ jg_ne (by decide) (rfl : jGet [(0, .ref 66), (1, .int (i32 (lv)))] 1 = some (.int (i32 (lv)))) rfl
    have gL584_2 : jGet L584 2 = some (.int (i32 (nd))) := eL584 ▸ jg_eq
    refine jx_ld (pc' := 23) (l' := L584) (st' := [.ref 66]) rfl (jl_aloadn gL584_0) ?_
    refine jx_vr (pc' := 26) (as := []) (st := []) rfl rfl rfl rfl ⟨rfl, rfl, Nat.le_of_ble_eq_true rfl⟩ rfl rfl (c_endLine (dd := d) (hd := by omega) (hW := hW576)  (ln := ln) (e_ln := show G573 9 = ln from ((hF577.1 9 rfl).trans ((hF454.1 9 rfl).trans (e_ln)))) (li := li) (e_li := show G573 3 = li from ((hF577.1 3 rfl).trans ((hF454.1 3 rfl).trans (e_li)))) (fk := fk) (e_fk := show G573 16 = fk from ((hF577.1 16 rfl).trans ((hF454.1 16 rfl).trans (e_fk)))) (tk0 := tk2_452) (e_tk0 := show G573 11 = tk2_452 from ((hF577.1 11 rfl).trans (e456)))    (p_0 := by omega)) (fun o V' hq => ?_)
    obtain ⟨G585, A586, ln2_587, fk2_588, rfl, rfl, hW589, hF590, e591, e592, q593⟩ := hq
    have hF594 := Fr_tr hF582 hF590 (Fr_sub (by decide)) (Fr_sub (by decide))
    have hP595 := Pf_f hP583 hF590 (by decide)
    have bln2_587 : (0 : Int) ≤ ln2_587 ∧ ln2_587 ≤ 3000 := e591 ▸ hW589.1 9
    have bfk2_588 : (0 : Int) ≤ fk2_588 ∧ fk2_588 ≤ 6 := e592 ▸ hW589.1 16
    refine .inl ⟨rfl, ?_⟩
    rcases q593 with ⟨a596, a597, a598, a599, a600⟩ | ⟨a601, a602⟩
    · have _q : True := trivial
      have b603 : (0 : Int) ≤ A 3 (ln2_587).toNat ∧ A 3 (ln2_587).toNat ≤ 3000 := hW.2 3 _
      have lt604 : ln2_587 < li → le < A 3 (ln2_587).toNat := fun hh => LT_nx (LT_ext (((hF590.1 3 rfl).trans ((hF577.1 3 rfl).trans (hF454.1 3 rfl)))) (((hF590.2 3 rfl).trans ((hF577.2 3 rfl).trans (hF454.2 3 rfl)))) (((hF590.2 4 rfl).trans ((hF577.2 4 rfl).trans (hF454.2 4 rfl)))) i_LT) (show G585 3 = li from ((hF590.1 3 rfl).trans ((hF577.1 3 rfl).trans ((hF454.1 3 rfl).trans (e_li))))) (show A586 4 (ln).toNat = le from (congrFun ((hF590.2 4 rfl).trans ((hF577.2 4 rfl).trans (hF454.2 4 rfl))) _).trans (e_le)) (show A586 3 (ln2_587).toNat = A 3 (ln2_587).toNat from (congrFun ((hF590.2 3 rfl).trans ((hF577.2 3 rfl).trans (hF454.2 3 rfl))) _)) (show ln2_587 = ln + 1 by omega) (by omega) hh
      refine jx_ld (pc' := 27) (l' := L584) (st' := [.ref 66]) rfl (jl_aloadn gL584_0) ?_
      refine jx_ld (pc' := 28) (l' := L584) (st' := [.int (i32 (nd)), .ref 66]) rfl (jl_iloadn gL584_2) ?_
      refine jx_ld (pc' := 29) (l' := L584) (st' := [.int (i32 (lv)), .int (i32 (nd)), .ref 66]) rfl (jl_iloadn gL584_1) ?_
      refine jx_ar (pc' := 30) (st' := [.int (i32 (2)), .int (i32 (lv)), .int (i32 (nd)), .ref 66]) rfl rfl rfl rfl ?_
      refine jx_ar (pc' := 32) (st' := [.int (i32 (8)), .int (i32 (2)), .int (i32 (lv)), .int (i32 (nd)), .ref 66]) rfl rfl rfl rfl ?_
      refine jx_vr (pc' := 35) (as := [.int (i32 (nd)), .int (i32 (lv)), .int (i32 (2)), .int (i32 (8))]) (st := []) rfl rfl rfl rfl ⟨rfl, rfl, Nat.le_of_ble_eq_true rfl⟩ rfl rfl (c_readChildren (dd := d) (hP := hP) (zz := nd) (hd := by omega) (hW := hW589) (n := nd) (lv := lv) (least := 2) (mo := 8) (ln := ln2_587) (e_ln := show G585 9 = ln2_587 from (e591)) (li := li) (e_li := show G585 3 = li from ((hF590.1 3 rfl).trans ((hF577.1 3 rfl).trans ((hF454.1 3 rfl).trans (e_li))))) (at0 := at2_451) (e_at0 := show G585 10 = at2_451 from ((hF590.1 10 rfl).trans ((hF577.1 10 rfl).trans (e455)))) (fk := fk2_588) (e_fk := show G585 16 = fk2_588 from (e592)) (nd := nd2_575) (e_nd := show G585 31 = nd2_575 from ((hF590.1 31 rfl).trans (e579))) (sy := sy) (e_sy := show G585 19 = sy from ((hF590.1 19 rfl).trans ((hF577.1 19 rfl).trans ((hF454.1 19 rfl).trans (e_sy))))) (na := na) (e_na := show G585 28 = na from ((hF590.1 28 rfl).trans ((hF577.1 28 rfl).trans ((hF454.1 28 rfl).trans (e_na))))) (vi := vi) (e_vi := show G585 29 = vi from ((hF590.1 29 rfl).trans ((hF577.1 29 rfl).trans ((hF454.1 29 rfl).trans (e_vi))))) (lf := A 3 (ln2_587).toNat) (e_lf := show A586 3 (ln2_587).toNat = A 3 (ln2_587).toNat from (congrFun ((hF590.2 3 rfl).trans ((hF577.2 3 rfl).trans (hF454.2 3 rfl))) _)) (i_LT := (LT_ext (((hF590.1 3 rfl).trans ((hF577.1 3 rfl).trans (hF454.1 3 rfl)))) (((hF590.2 3 rfl).trans ((hF577.2 3 rfl).trans (hF454.2 3 rfl)))) (((hF590.2 4 rfl).trans ((hF577.2 4 rfl).trans (hF454.2 4 rfl)))) i_LT)) (h_n := ⟨(Int.le_trans (by decide : (-2147483648 : Int) ≤ 0) b_nd.1), (Int.le_trans b_nd.2 (by decide : (6999 : Int) ≤ 2147483647))⟩) (h_lv := ⟨(Int.le_trans (by decide : (-2147483648 : Int) ≤ -2147483648) h_lv.1), (Int.le_trans h_lv.2 (by decide : (2147483647 : Int) ≤ 2147483647))⟩) (h_least := ⟨(by decide), (by decide)⟩) (h_mo := ⟨(by decide), (by decide)⟩)  (p_0 := by omega) (p_1 := by omega) (p_2 := by omega) (p_3 := by omega) (p_4 := by omega) (p_5 := by omega) (p_6 := by omega) (p_7 := by omega) (p_8 := by omega) (p_9 := by omega) (p_10 := by omega) (p_11 := by omega) (p_12 := by omega)) (fun o V' hq => ?_)
      obtain ⟨G605, A606, ln2_607, at2_608, fk2_609, nd2_610, sy2_611, na2_612, vi2_613, lf2_614, rfl, rfl, hW615, hF616, hQ617, e618, e619, e620, e621, e622, e623, e624, e625, p626, p627, p628, p629, p630, p631, p632, q633⟩ := hq
      have hF634 := Fr_tr hF594 hF616 (Fr_sub (by decide)) (Fr_sub (by decide))
      have hP635 := Pf_tr hP595 hQ617 (by omega)
      have bln2_607 : (0 : Int) ≤ ln2_607 ∧ ln2_607 ≤ 3000 := e618 ▸ hW615.1 9
      have bat2_608 : (0 : Int) ≤ at2_608 ∧ at2_608 ≤ 3002 := e619 ▸ hW615.1 10
      have bfk2_609 : (0 : Int) ≤ fk2_609 ∧ fk2_609 ≤ 6 := e620 ▸ hW615.1 16
      have bnd2_610 : (0 : Int) ≤ nd2_610 ∧ nd2_610 ≤ 6999 := e621 ▸ hW615.1 31
      have bsy2_611 : (0 : Int) ≤ sy2_611 ∧ sy2_611 ≤ 202 := e622 ▸ hW615.1 19
      have bna2_612 : (0 : Int) ≤ na2_612 ∧ na2_612 ≤ 200 := e623 ▸ hW615.1 28
      have bvi2_613 : (0 : Int) ≤ vi2_613 ∧ vi2_613 ≤ 202 := e624 ▸ hW615.1 29
      have blf2_614 : (0 : Int) ≤ lf2_614 ∧ lf2_614 ≤ 3000 := e625 ▸ hW615.2 3 _
      refine .inl ⟨rfl, ?_⟩
      rcases q633 with ⟨a636, a637⟩ | ⟨a638, a639, a640⟩
      · have _q : True := trivial
        refine jx_ld (pc' := 36) (l' := L584) (st' := [.int (i32 (nd))]) rfl (jl_iloadn gL584_2) ?_
        refine jx_rt (v := some (.int (i32 (nd)))) rfl rfl rfl rfl rfl rfl ?_
        exact ⟨_, _, _, ln2_607, at2_608, fk2_609, nd2_610, sy2_611, na2_612, vi2_613, lf2_614, rfl, rfl, hW615, hF634, hP635, by omega, (e618), (e619), (e620), (e621), (e622), (e623), (e624), (e625), by omega, by omega, by omega, by omega, by omega, by omega, by omega, by omega, by omega, by omega, by first | exact Or.inl (⟨by omega, by omega⟩) | exact Or.inr ((⟨by omega, by omega, by omega, by omega, by omega, by omega, by omega⟩))⟩
      · have _q : True := trivial
        refine jx_ld (pc' := 36) (l' := L584) (st' := [.int (i32 (nd))]) rfl (jl_iloadn gL584_2) ?_
        refine jx_rt (v := some (.int (i32 (nd)))) rfl rfl rfl rfl rfl rfl ?_
        exact ⟨_, _, _, ln2_607, at2_608, fk2_609, nd2_610, sy2_611, na2_612, vi2_613, lf2_614, rfl, rfl, hW615, hF634, hP635, by omega, (e618), (e619), (e620), (e621), (e622), (e623), (e624), (e625), by omega, by omega, by omega, by omega, by omega, by omega, by omega, by omega, by omega, by omega, by first | exact Or.inl (⟨by omega, by omega⟩) | exact Or.inr ((⟨by omega, by omega, by omega, by omega, by omega, by omega, by omega⟩))⟩
    · have _q : True := trivial
      refine jx_ld (pc' := 27) (l' := L584) (st' := [.ref 66]) rfl (jl_aloadn gL584_0) ?_
      refine jx_ld (pc' := 28) (l' := L584) (st' := [.int (i32 (nd)), .ref 66]) rfl (jl_iloadn gL584_2) ?_
      refine jx_ld (pc' := 29) (l' := L584) (st' := [.int (i32 (lv)), .int (i32 (nd)), .ref 66]) rfl (jl_iloadn gL584_1) ?_
      refine jx_ar (pc' := 30) (st' := [.int (i32 (2)), .int (i32 (lv)), .int (i32 (nd)), .ref 66]) rfl rfl rfl rfl ?_
      refine jx_ar (pc' := 32) (st' := [.int (i32 (8)), .int (i32 (2)), .int (i32 (lv)), .int (i32 (nd)), .ref 66]) rfl rfl rfl rfl ?_
      refine jx_vr (pc' := 35) (as := [.int (i32 (nd)), .int (i32 (lv)), .int (i32 (2)), .int (i32 (8))]) (st := []) rfl rfl rfl rfl ⟨rfl, rfl, Nat.le_of_ble_eq_true rfl⟩ rfl rfl (c_readChildren_f (dd := d) (zz := nd) (hd := by omega) (hW := hW589) (n := nd) (lv := lv) (least := 2) (mo := 8) (fk := fk2_588) (e_fk := show G585 16 = fk2_588 from (e592))  (h_n := ⟨(Int.le_trans (by decide : (-2147483648 : Int) ≤ 0) b_nd.1), (Int.le_trans b_nd.2 (by decide : (6999 : Int) ≤ 2147483647))⟩) (h_lv := ⟨(Int.le_trans (by decide : (-2147483648 : Int) ≤ -2147483648) h_lv.1), (Int.le_trans h_lv.2 (by decide : (2147483647 : Int) ≤ 2147483647))⟩) (h_least := ⟨(by decide), (by decide)⟩) (h_mo := ⟨(by decide), (by decide)⟩)  (p_0 := by omega) (p_1 := by omega) (p_2 := by omega) (p_3 := by omega)) (fun o V' hq => ?_)
      obtain ⟨G641, A642, fk2_643, rfl, rfl, hW644, hF645, hQ646, e647, p648, -⟩ := hq
      have hF650 := Fr_tr hF594 hF645 (Fr_sub (by decide)) (Fr_sub (by decide))
      have hP651 := Pf_tr hP595 hQ646 (by omega)
      have bfk2_643 : (0 : Int) ≤ fk2_643 ∧ fk2_643 ≤ 6 := e647 ▸ hW644.1 16
      refine .inl ⟨rfl, ?_⟩
      refine jx_ld (pc' := 36) (l' := L584) (st' := [.int (i32 (nd))]) rfl (jl_iloadn gL584_2) ?_
      refine jx_rt (v := some (.int (i32 (nd)))) rfl rfl rfl rfl rfl rfl ?_
      exact ⟨_, _, _, ln2_587, at2_451, fk2_643, nd2_575, sy, na, vi, A 3 (ln2_587).toNat, rfl, rfl, hW644, hF650, hP651, by omega, ((hF645.1 9 rfl).trans (e591)), ((hF645.1 10 rfl).trans ((hF590.1 10 rfl).trans ((hF577.1 10 rfl).trans (e455)))), (e647), ((hF645.1 31 rfl).trans ((hF590.1 31 rfl).trans (e579))), ((hF645.1 19 rfl).trans ((hF590.1 19 rfl).trans ((hF577.1 19 rfl).trans ((hF454.1 19 rfl).trans (e_sy))))), ((hF645.1 28 rfl).trans ((hF590.1 28 rfl).trans ((hF577.1 28 rfl).trans ((hF454.1 28 rfl).trans (e_na))))), ((hF645.1 29 rfl).trans ((hF590.1 29 rfl).trans ((hF577.1 29 rfl).trans ((hF454.1 29 rfl).trans (e_vi))))), (congrFun ((hF645.2 3 rfl).trans ((hF590.2 3 rfl).trans ((hF577.2 3 rfl).trans (hF454.2 3 rfl)))) _), by omega, by omega, by omega, by omega, by omega, by omega, by omega, by omega, by omega, by omega, by first | exact Or.inl (⟨by omega, by omega⟩) | exact Or.inr ((⟨by omega, by omega, by omega, by omega, by omega, by omega, by omega⟩))⟩
