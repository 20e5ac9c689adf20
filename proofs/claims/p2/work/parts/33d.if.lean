set_option maxRecDepth 20000 in
set_option maxHeartbeats 4000000 in
theorem c_readIf {X : jX} {k : Nat} (hP : RP X k) {dd : Nat} {c0 c1 : jC} {G : Nat → Int} {A : Nat → Nat → Int} {T : jH} {lv : Int} {ln li at0 fk nd sy na vi le op0 tk0 : Int} (hd : 8 * k + 82 ≤ dd) (hW : Wk G A) (e_ln : G 9 = ln) (e_li : G 3 = li) (e_at0 : G 10 = at0) (e_fk : G 16 = fk) (e_nd : G 31 = nd) (e_sy : G 19 = sy) (e_na : G 28 = na) (e_vi : G 29 = vi) (e_le : A 4 (ln).toNat = le) (e_op0 : G 15 = op0) (e_tk0 : G 11 = tk0) (i_LT : LT G A) (h_lv : (-2147483648 : Int) ≤ lv ∧ lv ≤ 2147483647) (p_0 : 0 ≤ lv ∧ lv ≤ 15) (p_1 : 18 - lv ≤ ((k + 1 : Nat) : Int)) (p_2 : fk = 0) (p_3 : ln < li) (p_4 : at0 ≤ le) (p_5 : op0 = 0) (p_6 : nd ≤ 2 * at0 - tz tk0 + 30) (p_7 : sy ≤ na + 2) (p_8 : vi ≤ sy) (p_9 : 1 ≤ tk0) : wk X dd 301 [.ref 66, .int (i32 lv)] (rV c0 c1 G A T) (fun o V' => ∃ (G' : Nat → Int) (A' : Nat → Nat → Int) (r : Int) (ln2 : Int) (at2 : Int) (fk2 : Int) (nd2 : Int) (sy2 : Int) (na2 : Int) (vi2 : Int) (lf2 : Int), V' = rV c0 c1 G' A' T ∧ o = .inl (some (.int (i32 r))) ∧ Wk G' A' ∧ Fr [9, 10, 11, 12, 13, 14, 15, 16, 17, 18, 19, 28, 29, 31] [6, 7, 8, 9, 10, 11, 12, 14, 15, 16, 17, 18, 19, 20, 21, 22, 23, 24, 28] G A G' A' ∧ Pf nd A A' ∧ ((-2147483648 : Int) ≤ r ∧ r ≤ 2147483647) ∧ G' 9 = ln2 ∧ G' 10 = at2 ∧ G' 16 = fk2 ∧ G' 31 = nd2 ∧ G' 19 = sy2 ∧ G' 28 = na2 ∧ G' 29 = vi2 ∧ A' 3 (ln2).toNat = lf2 ∧ (at0 ≤ at2) ∧ (nd ≤ nd2) ∧ (sy ≤ sy2) ∧ (sy2 ≤ na2 + 2) ∧ (vi ≤ vi2) ∧ (vi2 ≤ vi + 1) ∧ (0 ≤ r) ∧ (r ≤ 6999) ∧ (ln ≤ ln2) ∧ (ln2 ≤ li) ∧ (((1 ≤ fk2) ∧ (nd2 - nd ≤ 2 * at2 - (2 * at0 - tz tk0) + 14)) ∨ ((fk2 = 0) ∧ (vi2 = vi) ∧ (ln < ln2) ∧ (nd2 - nd ≤ 2 * at2 - (2 * at0 - tz tk0)) ∧ (at2 < lf2 ∨ li ≤ ln2) ∧ (nd ≤ r) ∧ (r < nd2)))) := by
  obtain ⟨d, rfl⟩ : ∃ d, dd = d + 1 := ⟨dd - 1, by omega⟩
  refine wk_of (e := jm301) rfl (Nat.le_of_ble_eq_true rfl) ?_
  show wj X d jm301 (0, [(0, .ref 66), (1, .int (i32 (lv)))], [], rV c0 c1 G A T) _
  have hF0 : Fr [9, 10, 11, 12, 13, 14, 15, 16, 17, 18, 19, 28, 29, 31] [6, 7, 8, 9, 10, 11, 12, 14, 15, 16, 17, 18, 19, 20, 21, 22, 23, 24, 28] G A G A := Fr_rf
  have hP0 : Pf nd A A := Pf_rf
  have b_ln : (0 : Int) ≤ ln ∧ ln ≤ 3000 := e_ln ▸ hW.1 9
  have b_li : (0 : Int) ≤ li ∧ li ≤ 3000 := e_li ▸ hW.1 3
  have b_at0 : (0 : Int) ≤ at0 ∧ at0 ≤ 3002 := e_at0 ▸ hW.1 10
  have b_fk : (0 : Int) ≤ fk ∧ fk ≤ 6 := e_fk ▸ hW.1 16
  have b_nd : (0 : Int) ≤ nd ∧ nd ≤ 6999 := e_nd ▸ hW.1 31
  have b_sy : (0 : Int) ≤ sy ∧ sy ≤ 202 := e_sy ▸ hW.1 19
  have b_na : (0 : Int) ≤ na ∧ na ≤ 200 := e_na ▸ hW.1 28
  have b_vi : (0 : Int) ≤ vi ∧ vi ≤ 202 := e_vi ▸ hW.1 29
  have b_le : (0 : Int) ≤ le ∧ le ≤ 3000 := e_le ▸ hW.2 4 _
  have b_op0 : (-2147483648 : Int) ≤ op0 ∧ op0 ≤ 2147483647 := e_op0 ▸ hW.1 15
  have z_tk0 := tz_f tk0
  have b_tk0 : (0 : Int) ≤ tk0 ∧ tk0 ≤ 5 := e_tk0 ▸ hW.1 11
  have at_21 : ∀ (m : Nat) (L : jL) (Gx : Nat → Int) (Ax : Nat → Nat → Int) (n last ln1 at1 fk1 nd1 sy1 na1 vi1 lf1 : Int), (li - ln1).toNat = m → jGet L 0 = some (.ref 66) → jGet L 1 = some (.int (i32 (lv))) → jGet L 2 = some (.int (i32 n)) → jGet L 3 = some (.int (i32 last)) → Wk Gx Ax → Fr [9, 10, 11, 12, 13, 14, 15, 16, 17, 18, 19, 28, 29, 31] [6, 7, 8, 9, 10, 11, 12, 14, 15, 16, 17, 18, 19, 20, 21, 22, 23, 24, 28] G A Gx Ax → Pf nd A Ax → Gx 9 = ln1 → Gx 10 = at1 → Gx 16 = fk1 → Gx 31 = nd1 → Gx 19 = sy1 → Gx 28 = na1 → Gx 29 = vi1 → Ax 3 (ln1).toNat = lf1 → ((-2147483648 : Int) ≤ n ∧ n ≤ 2147483647) → ((-2147483648 : Int) ≤ last ∧ last ≤ 2147483647) → (fk1 = 0) → (at0 ≤ at1) → (nd ≤ n ∧ n ≤ 6998 ∧ n < nd1) → (sy ≤ sy1) → (sy1 ≤ na1 + 2) → (vi1 = vi) → (ln < ln1) → (ln1 ≤ li) → (nd1 - nd ≤ 2 * at1 - (2 * at0 - tz tk0)) → (at1 < lf1 ∨ li ≤ ln1) → (0 ≤ last ∧ last ≤ 6998) → (last = 0 ∨ nd ≤ last) → wj X d jm301 (21, L, [], rV c0 c1 Gx Ax T) (fun o V' => ∃ (G' : Nat → Int) (A' : Nat → Nat → Int) (r : Int) (ln2 : Int) (at2 : Int) (fk2 : Int) (nd2 : Int) (sy2 : Int) (na2 : Int) (vi2 : Int) (lf2 : Int), V' = rV c0 c1 G' A' T ∧ o = .inl (some (.int (i32 r))) ∧ Wk G' A' ∧ Fr [9, 10, 11, 12, 13, 14, 15, 16, 17, 18, 19, 28, 29, 31] [6, 7, 8, 9, 10, 11, 12, 14, 15, 16, 17, 18, 19, 20, 21, 22, 23, 24, 28] G A G' A' ∧ Pf nd A A' ∧ ((-2147483648 : Int) ≤ r ∧ r ≤ 2147483647) ∧ G' 9 = ln2 ∧ G' 10 = at2 ∧ G' 16 = fk2 ∧ G' 31 = nd2 ∧ G' 19 = sy2 ∧ G' 28 = na2 ∧ G' 29 = vi2 ∧ A' 3 (ln2).toNat = lf2 ∧ (at0 ≤ at2) ∧ (nd ≤ nd2) ∧ (sy ≤ sy2) ∧ (sy2 ≤ na2 + 2) ∧ (vi ≤ vi2) ∧ (vi2 ≤ vi + 1) ∧ (0 ≤ r) ∧ (r ≤ 6999) ∧ (ln ≤ ln2) ∧ (ln2 ≤ li) ∧ (((1 ≤ fk2) ∧ (nd2 - nd ≤ 2 * at2 - (2 * at0 - tz tk0) + 14)) ∨ ((fk2 = 0) ∧ (vi2 = vi) ∧ (ln < ln2) ∧ (nd2 - nd ≤ 2 * at2 - (2 * at0 - tz tk0)) ∧ (at2 < lf2 ∨ li ≤ ln2) ∧ (nd ≤ r) ∧ (r < nd2)))) := by
    intro m
    induction m using Nat.strongRecOn with
    | ind m ih21 =>
      intro L Gx Ax n last ln1 at1 fk1 nd1 sy1 na1 vi1 lf1 hm gL_0 gL_1 gL_2 gL_3 hWx hFx hPx ex_ln1 ex_at1 ex_fk1 ex_nd1 ex_sy1 ex_na1 ex_vi1 ex_lf1 rx_n rx_last iv_0 iv_1 iv_2 iv_3 iv_4 iv_5 iv_6 iv_7 iv_8 iv_9 iv_10 iv_11
      have b_ln1 : (0 : Int) ≤ ln1 ∧ ln1 ≤ 3000 := ex_ln1 ▸ hWx.1 9
      have b_at1 : (0 : Int) ≤ at1 ∧ at1 ≤ 3002 := ex_at1 ▸ hWx.1 10
      have b_fk1 : (0 : Int) ≤ fk1 ∧ fk1 ≤ 6 := ex_fk1 ▸ hWx.1 16
      have b_nd1 : (0 : Int) ≤ nd1 ∧ nd1 ≤ 6999 := ex_nd1 ▸ hWx.1 31
      have b_sy1 : (0 : Int) ≤ sy1 ∧ sy1 ≤ 202 := ex_sy1 ▸ hWx.1 19
      have b_na1 : (0 : Int) ≤ na1 ∧ na1 ≤ 200 := ex_na1 ▸ hWx.1 28
      have b_vi1 : (0 : Int) ≤ vi1 ∧ vi1 ≤ 202 := ex_vi1 ▸ hWx.1 29
      refine jx_ld (pc' := 22) (l' := L) (st' := [.ref 66]) rfl (jl_aloadn gL_0) ?_
      refine jx_ld (pc' := 23) (l' := L) (st' := [.int (i32 (lv)), .ref 66]) rfl (jl_iloadn gL_1) ?_
      have b1 : (-1 : Int) ≤ A 5 (ln1).toNat ∧ A 5 (ln1).toNat ≤ 15 := hW.2 5 _
      refine jx_vr (pc' := 26) (as := [.int (i32 (lv))]) (st := []) rfl rfl rfl rfl ⟨rfl, rfl, Nat.le_of_ble_eq_true rfl⟩ rfl rfl (c_isBelow (dd := d) (hd := by omega) (hW := hWx) (lv := lv) (ln := ln1) (e_ln := show Gx 9 = ln1 from (ex_ln1)) (li := li) (e_li := show Gx 3 = li from ((hFx.1 3 rfl).trans (e_li))) (fk := fk1) (e_fk := show Gx 16 = fk1 from (ex_fk1)) (ll := A 5 (ln1).toNat) (e_ll := show Ax 5 (ln1).toNat = A 5 (ln1).toNat from (congrFun (hFx.2 5 rfl) _))  (h_lv := ⟨(Int.le_trans (by decide : (-2147483648 : Int) ≤ -2147483648) h_lv.1), (Int.le_trans h_lv.2 (by decide : (2147483647 : Int) ≤ 2147483647))⟩)  (p_0 := by omega)) (fun o V' hq => ?_)
      obtain ⟨G2, A3, r4, fk2_5, rfl, rfl, hW6, hF7, b8, e9, q10⟩ := hq
      have hF11 := Fr_tr hFx hF7 (Fr_sub (by decide)) (Fr_sub (by decide))
      have hP12 := Pf_f hPx hF7 (by decide)
      have bfk2_5 : (0 : Int) ≤ fk2_5 ∧ fk2_5 ≤ 6 := e9 ▸ hW6.1 16
      refine .inr ⟨_, rfl, ?_⟩
      rcases q10 with ⟨rfl, a13, a14, a15, a16⟩ | ⟨rfl, a17⟩ | ⟨rfl, a18, a19⟩
      · have _q : True := trivial
        have b20 : (0 : Int) ≤ A 4 (ln1).toNat ∧ A 4 (ln1).toNat ≤ 3000 := hW.2 4 _
        have lt21 : lf1 < A 4 (ln1).toNat := LT_at (LT_ext (((hF7.1 3 rfl).trans (hFx.1 3 rfl))) (((hF7.2 3 rfl).trans (hFx.2 3 rfl))) (((hF7.2 4 rfl).trans (hFx.2 4 rfl))) i_LT) (show G2 3 = li from ((hF7.1 3 rfl).trans ((hFx.1 3 rfl).trans (e_li)))) (show A3 3 (ln1).toNat = lf1 from (congrFun (hF7.2 3 rfl) _).trans (ex_lf1)) (show A3 4 (ln1).toNat = A 4 (ln1).toNat from (congrFun ((hF7.2 4 rfl).trans (hFx.2 4 rfl)) _)) (by omega) (by omega)
        refine jx_if_eq (pc' := 29) (tg := 112) rfl rfl rfl (by decide) (by decide) (fun h22 => ?_) (fun h22 => ?_)
        · have _q := h22
          exact absurd h22 (by omega)
        · have _q := h22
          refine jx_ld (pc' := 30) (l' := L) (st' := [.ref 66]) rfl (jl_aloadn gL_0) ?_
          refine jx_vr (pc' := 33) (as := []) (st := []) rfl rfl rfl rfl ⟨rfl, rfl, Nat.le_of_ble_eq_true rfl⟩ rfl rfl (c_openLine (dd := d) (hd := by omega) (hW := hW6)  (ln := ln1) (e_ln := show G2 9 = ln1 from ((hF7.1 9 rfl).trans (ex_ln1))) (le := A 4 (ln1).toNat) (e_le := show A3 4 (ln1).toNat = A 4 (ln1).toNat from (congrFun ((hF7.2 4 rfl).trans (hFx.2 4 rfl)) _)) (lf := lf1) (e_lf := show A3 3 (ln1).toNat = lf1 from (congrFun (hF7.2 3 rfl) _).trans (ex_lf1))    (p_0 := by omega)) (fun o V' hq => ?_)
          obtain ⟨G23, A24, at2_25, tk2_26, op2_27, rfl, rfl, hW28, hF29, e30, e31, e32, p33, p34, p35, p36, -⟩ := hq
          have hF38 := Fr_tr hF11 hF29 (Fr_sub (by decide)) (Fr_sub (by decide))
          have hP39 := Pf_f hP12 hF29 (by decide)
          have bat2_25 : (0 : Int) ≤ at2_25 ∧ at2_25 ≤ 3002 := e30 ▸ hW28.1 10
          have ztk2_26 := tz_b tk2_26
          have btk2_26 : (0 : Int) ≤ tk2_26 ∧ tk2_26 ≤ 5 := e31 ▸ hW28.1 11
          have bop2_27 : (-2147483648 : Int) ≤ op2_27 ∧ op2_27 ≤ 2147483647 := e32 ▸ hW28.1 15
          refine .inl ⟨rfl, ?_⟩
          refine jx_ld (pc' := 34) (l' := L) (st' := [.ref 66]) rfl (jl_aloadn gL_0) ?_
          refine jx_ar (pc' := 36) (st' := [.int (i32 (34)), .ref 66]) rfl rfl rfl rfl ?_
          refine jx_ar (pc' := 37) (st' := [.int (i32 (0)), .int (i32 (34)), .ref 66]) rfl rfl rfl rfl ?_
          refine jx_ar (pc' := 38) (st' := [.int (i32 (0)), .int (i32 (0)), .int (i32 (34)), .ref 66]) rfl rfl rfl rfl ?_
          refine jx_ar (pc' := 39) (st' := [.int (i32 (0)), .int (i32 (0)), .int (i32 (0)), .int (i32 (34)), .ref 66]) rfl rfl rfl rfl ?_
          refine jx_ar (pc' := 40) (st' := [.int (i32 (0)), .int (i32 (0)), .int (i32 (0)), .int (i32 (0)), .int (i32 (34)), .ref 66]) rfl rfl rfl rfl ?_
          refine jx_vr (pc' := 43) (as := [.int (i32 (34)), .int (i32 (0)), .int (i32 (0)), .int (i32 (0)), .int (i32 (0))]) (st := []) rfl rfl rfl rfl ⟨rfl, rfl, Nat.le_of_ble_eq_true rfl⟩ rfl rfl (c_node (dd := d) (hd := by omega) (hW := hW28) (kind := 34) (a := 0) (b := 0) (c := 0) (e := 0) (nd := nd1) (e_nd := show G23 31 = nd1 from ((hF29.1 31 rfl).trans ((hF7.1 31 rfl).trans (ex_nd1))))  (h_kind := ⟨(by decide), (by decide)⟩) (h_a := ⟨(by decide), (by decide)⟩) (h_b := ⟨(by decide), (by decide)⟩) (h_c := ⟨(by decide), (by decide)⟩) (h_e := ⟨(by decide), (by decide)⟩)  (p_0 := by omega) (p_1 := by omega)) (fun o V' hq => ?_)
          obtain ⟨G40, A41, nd2_42, rfl, rfl, hW43, hF44, hQ45, e46, p47, -⟩ := hq
          have hF49 := Fr_tr hF38 hF44 (Fr_sub (by decide)) (Fr_sub (by decide))
          have hP50 := Pf_tr hP39 hQ45 (by omega)
          have bnd2_42 : (0 : Int) ≤ nd2_42 ∧ nd2_42 ≤ 6999 := e46 ▸ hW43.1 31
          refine .inr ⟨_, rfl, ?_⟩
          refine jx_ld (pc' := 45) (l' := jSto1 L 4 (.int (i32 (nd1)))) (st' := []) rfl rfl ?_
          obtain ⟨L51, eL51⟩ : ∃ q, q = jSto1 L 4 (.int (i32 (nd1))) := ⟨_, rfl⟩
          rw [← eL51]
          have gL51_0 : jGet L51 0 = some (.ref 66) := eL51 ▸ jg_ne (by decide) gL_0 rfl
          have gL51_1 : jGet L51 1 = some (.int (i32 (lv))) := eL51 ▸ jg_ne (by decide) gL_1 rfl
          have gL51_2 : jGet L51 2 = some (.int (i32 (n))) := eL51 ▸ jg_ne (by decide) gL_2 rfl
          have gL51_3 : jGet L51 3 = some (.int (i32 (last))) := eL51 ▸ jg_ne (by decide) gL_3 rfl
          have gL51_4 : jGet L51 4 = some (.int (i32 (nd1))) := eL51 ▸ jg_eq
          refine jx_ld (pc' := 46) (l' := L51) (st' := [.ref 66]) rfl (jl_aloadn gL51_0) ?_
          refine jr_get (pc' := 49) (i := 34) (v := .ref 84) rfl rfl (by decide) rfl rfl ?_
          refine jx_ld (pc' := 51) (l' := L51) (st' := [.int (i32 (nd1)), .ref 84]) rfl (jl_iload gL51_4) ?_
          refine jx_ld (pc' := 52) (l' := L51) (st' := [.ref 66, .int (i32 (nd1)), .ref 84]) rfl (jl_aloadn gL51_0) ?_
          refine jx_vr (pc' := 55) (as := []) (st := [.int (i32 (nd1)), .ref 84]) rfl rfl rfl rfl ⟨rfl, rfl, Nat.le_of_ble_eq_true rfl⟩ rfl rfl (RE_all X 9 (dd := d) (hd := by omega) (hW := hW43)  (ln := ln1) (e_ln := show G40 9 = ln1 from ((hF44.1 9 rfl).trans ((hF29.1 9 rfl).trans ((hF7.1 9 rfl).trans (ex_ln1))))) (le := A 4 (ln1).toNat) (e_le := show A41 4 (ln1).toNat = A 4 (ln1).toNat from (congrFun ((hF44.2 4 rfl).trans ((hF29.2 4 rfl).trans ((hF7.2 4 rfl).trans (hFx.2 4 rfl)))) _)) (at0 := at2_25) (e_at0 := show G40 10 = at2_25 from ((hF44.1 10 rfl).trans (e30))) (fk := fk2_5) (e_fk := show G40 16 = fk2_5 from ((hF44.1 16 rfl).trans ((hF29.1 16 rfl).trans (e9)))) (op0 := op2_27) (e_op0 := show G40 15 = op2_27 from ((hF44.1 15 rfl).trans (e32))) (nd := nd2_42) (e_nd := show G40 31 = nd2_42 from (e46)) (tk0 := tk2_26) (e_tk0 := show G40 11 = tk2_26 from ((hF44.1 11 rfl).trans (e31)))    (p_0 := by omega) (p_1 := by omega) (p_2 := by omega) (p_3 := by omega) (p_4 := by omega) (p_5 := by omega)) (fun o V' hq => ?_)
          obtain ⟨G52, A53, r54, at2_55, fk2_56, op2_57, nd2_58, tk2_59, rfl, rfl, hW60, hF61, hQ62, b63, e64, e65, e66, e67, e68, p69, p70, p71, p72, p73, p74, q75⟩ := hq
          have hF76 := Fr_tr hF49 hF61 (Fr_sub (by decide)) (Fr_sub (by decide))
          have hP77 := Pf_tr hP50 hQ62 (by omega)
          have bat2_55 : (0 : Int) ≤ at2_55 ∧ at2_55 ≤ 3002 := e64 ▸ hW60.1 10
          have bfk2_56 : (0 : Int) ≤ fk2_56 ∧ fk2_56 ≤ 6 := e65 ▸ hW60.1 16
          have bop2_57 : (-2147483648 : Int) ≤ op2_57 ∧ op2_57 ≤ 2147483647 := e66 ▸ hW60.1 15
          have bnd2_58 : (0 : Int) ≤ nd2_58 ∧ nd2_58 ≤ 6999 := e67 ▸ hW60.1 31
          have ztk2_59 := tz_b tk2_59
          have btk2_59 : (0 : Int) ≤ tk2_59 ∧ tk2_59 ≤ 5 := e68 ▸ hW60.1 11
          refine .inr ⟨_, rfl, ?_⟩
          rcases q75 with ⟨a78, a79, a80, a81, a82, a83⟩ | ⟨a84, a85, a86⟩ | ⟨a87, a88, a89⟩
          · have _q : True := trivial
            exfalso
            omega
          · have _q : True := trivial
            refine jr_st (pc' := 56) (i := 17) (m := 7000) (z := nd1) (y := r54) rfl (by decide) rfl (by decide) (by omega) (by omega) rfl ?_
            have hW91 : Wk G52 (uA A53 17 (nd1).toNat (r54)) := Wk_a hW60 (show (-2147483648 : Int) ≤ r54 by omega) (show r54 ≤ (2147483647 : Int) by omega)
            have hF92 := Fr_a (z := r54) (k := 17) (n := (nd1).toNat) hF76 (by decide)
            obtain ⟨A90, eA90⟩ : ∃ q, q = uA A53 17 (nd1).toNat (r54) := ⟨_, rfl⟩
            rw [← eA90]
            rw [← eA90] at hW91 hF92
            have q93 : A90 17 (nd1).toNat = r54 := by rw [eA90]; exact uA_eq
            have hP94 : Pf nd A A90 := eA90 ▸ Pf_a hP77 (z := nd1) (by omega) (by omega)
            refine jx_ld (pc' := 57) (l' := L51) (st' := [.ref 66]) rfl (jl_aloadn gL51_0) ?_
            refine jx_vr (pc' := 60) (as := []) (st := []) rfl rfl rfl rfl ⟨rfl, rfl, Nat.le_of_ble_eq_true rfl⟩ rfl rfl (c_endLine (dd := d) (hd := by omega) (hW := hW91)  (ln := ln1) (e_ln := show G52 9 = ln1 from ((hF61.1 9 rfl).trans ((hF44.1 9 rfl).trans ((hF29.1 9 rfl).trans ((hF7.1 9 rfl).trans (ex_ln1)))))) (li := li) (e_li := show G52 3 = li from ((hF61.1 3 rfl).trans ((hF44.1 3 rfl).trans ((hF29.1 3 rfl).trans ((hF7.1 3 rfl).trans ((hFx.1 3 rfl).trans (e_li))))))) (fk := fk2_56) (e_fk := show G52 16 = fk2_56 from (e65)) (tk0 := tk2_59) (e_tk0 := show G52 11 = tk2_59 from (e68))    (p_0 := by omega)) (fun o V' hq => ?_)
            obtain ⟨G95, A96, ln2_97, fk2_98, rfl, rfl, hW99, hF100, e101, e102, q103⟩ := hq
            have hF104 := Fr_tr hF92 hF100 (Fr_sub (by decide)) (Fr_sub (by decide))
            have hP105 := Pf_f hP94 hF100 (by decide)
            have bln2_97 : (0 : Int) ≤ ln2_97 ∧ ln2_97 ≤ 3000 := e101 ▸ hW99.1 9
            have bfk2_98 : (0 : Int) ≤ fk2_98 ∧ fk2_98 ≤ 6 := e102 ▸ hW99.1 16
            refine .inl ⟨rfl, ?_⟩
            rcases q103 with ⟨a106, a107, a108, a109, a110⟩ | ⟨a111, a112⟩
            · have _q : True := trivial
              exfalso
              omega
            · have _q : True := trivial
              refine jx_ld (pc' := 61) (l' := L51) (st' := [.ref 66]) rfl (jl_aloadn gL51_0) ?_
              refine jx_vr (pc' := 64) (as := []) (st := []) rfl rfl rfl rfl ⟨rfl, rfl, Nat.le_of_ble_eq_true rfl⟩ rfl rfl (c_bad (dd := d) (hd := by omega) (hW := hW99)  (fk := fk2_98) (e_fk := show G95 16 = fk2_98 from (e102))    ) (fun o V' hq => ?_)
              obtain ⟨r113, rfl, rfl, b114, q115⟩ := hq
              refine .inr ⟨_, rfl, ?_⟩
              rcases q115 with ⟨rfl, a116⟩ | ⟨rfl, a117⟩
              · have _q : True := trivial
                refine jx_if_eq (pc' := 67) (tg := 71) rfl rfl rfl (by decide) (by decide) (fun h118 => ?_) (fun h118 => ?_)
                · have _q := h118
                  exact absurd h118 (by omega)
                · have _q := h118
                  refine jx_ar (pc' := 68) (st' := [.int (i32 (0))]) rfl rfl rfl rfl ?_
                  refine jx_go (tg := 78) rfl rfl ?_
                  refine jx_ld (pc' := 80) (l' := jSto1 L51 5 (.int (i32 (0)))) (st' := []) rfl rfl ?_
                  obtain ⟨L119, eL119⟩ : ∃ q, q = jSto1 L51 5 (.int (i32 (0))) := ⟨_, rfl⟩
                  rw [← eL119]
                  have gL119_0 : jGet L119 0 = some (.ref 66) := eL119 ▸ jg_ne (by decide) gL51_0 rfl
                  have gL119_1 : jGet L119 1 = some (.int (i32 (lv))) := eL119 ▸ jg_ne (by decide) gL51_1 rfl
                  have gL119_2 : jGet L119 2 = some (.int (i32 (n))) := eL119 ▸ jg_ne (by decide) gL51_2 rfl
                  have gL119_3 : jGet L119 3 = some (.int (i32 (last))) := eL119 ▸ jg_ne (by decide) gL51_3 rfl
                  have gL119_4 : jGet L119 4 = some (.int (i32 (nd1))) := eL119 ▸ jg_ne (by decide) gL51_4 rfl
                  have gL119_5 : jGet L119 5 = some (.int (i32 (0))) := eL119 ▸ jg_eq
                  refine jx_ld (pc' := 81) (l' := L119) (st' := [.ref 66]) rfl (jl_aloadn gL119_0) ?_
                  refine jx_vr (pc' := 84) (as := []) (st := []) rfl rfl rfl rfl ⟨rfl, rfl, Nat.le_of_ble_eq_true rfl⟩ rfl rfl (c_bad (dd := d) (hd := by omega) (hW := hW99)  (fk := fk2_98) (e_fk := show G95 16 = fk2_98 from (e102))    ) (fun o V' hq => ?_)
                  obtain ⟨r120, rfl, rfl, b121, q122⟩ := hq
                  refine .inr ⟨_, rfl, ?_⟩
                  rcases q122 with ⟨rfl, a123⟩ | ⟨rfl, a124⟩
                  · have _q : True := trivial
                    refine jx_if_eq (pc' := 87) (tg := 89) rfl rfl rfl (by decide) (by decide) (fun h125 => ?_) (fun h125 => ?_)
                    · have _q := h125
                      exact absurd h125 (by omega)
                    · have _q := h125
                      refine jx_ar (pc' := 88) (st' := [.int (i32 (0))]) rfl rfl rfl rfl ?_
                      refine jx_rt (v := some (.int (i32 (0)))) rfl rfl rfl rfl rfl rfl ?_
                      exact ⟨_, _, _, ln2_97, at2_55, fk2_98, nd2_58, sy1, na1, vi1, A 3 (ln2_97).toNat, rfl, rfl, hW99, hF104, hP105, by omega, (e101), ((hF100.1 10 rfl).trans (e64)), (e102), ((hF100.1 31 rfl).trans (e67)), ((hF100.1 19 rfl).trans ((hF61.1 19 rfl).trans ((hF44.1 19 rfl).trans ((hF29.1 19 rfl).trans ((hF7.1 19 rfl).trans (ex_sy1)))))), ((hF100.1 28 rfl).trans ((hF61.1 28 rfl).trans ((hF44.1 28 rfl).trans ((hF29.1 28 rfl).trans ((hF7.1 28 rfl).trans (ex_na1)))))), ((hF100.1 29 rfl).trans ((hF61.1 29 rfl).trans ((hF44.1 29 rfl).trans ((hF29.1 29 rfl).trans ((hF7.1 29 rfl).trans (ex_vi1)))))), (congrFun ((hF100.2 3 rfl).trans (((congrFun eA90 3).trans (uA_ne (by decide))).trans ((hF61.2 3 rfl).trans ((hF44.2 3 rfl).trans ((hF29.2 3 rfl).trans ((hF7.2 3 rfl).trans (hFx.2 3 rfl))))))) _), by omega, by omega, by omega, by omega, by omega, by omega, by omega, by omega, by omega, by omega, by first | exact Or.inl (⟨by omega, by omega⟩) | exact Or.inr ((⟨by omega, by omega, by omega, by omega, by omega, by omega, by omega⟩))⟩
                  · have _q : True := trivial
                    exfalso
                    omega
              · have _q : True := trivial
                exfalso
                omega
          · have _q : True := trivial
            refine jr_st (pc' := 56) (i := 17) (m := 7000) (z := nd1) (y := r54) rfl (by decide) rfl (by decide) (by omega) (by omega) rfl ?_
            have hW127 : Wk G52 (uA A53 17 (nd1).toNat (r54)) := Wk_a hW60 (show (-2147483648 : Int) ≤ r54 by omega) (show r54 ≤ (2147483647 : Int) by omega)
            have hF128 := Fr_a (z := r54) (k := 17) (n := (nd1).toNat) hF76 (by decide)
            obtain ⟨A126, eA126⟩ : ∃ q, q = uA A53 17 (nd1).toNat (r54) := ⟨_, rfl⟩
            rw [← eA126]
            rw [← eA126] at hW127 hF128
            have q129 : A126 17 (nd1).toNat = r54 := by rw [eA126]; exact uA_eq
            have hP130 : Pf nd A A126 := eA126 ▸ Pf_a hP77 (z := nd1) (by omega) (by omega)
            refine jx_ld (pc' := 57) (l' := L51) (st' := [.ref 66]) rfl (jl_aloadn gL51_0) ?_
            refine jx_vr (pc' := 60) (as := []) (st := []) rfl rfl rfl rfl ⟨rfl, rfl, Nat.le_of_ble_eq_true rfl⟩ rfl rfl (c_endLine (dd := d) (hd := by omega) (hW := hW127)  (ln := ln1) (e_ln := show G52 9 = ln1 from ((hF61.1 9 rfl).trans ((hF44.1 9 rfl).trans ((hF29.1 9 rfl).trans ((hF7.1 9 rfl).trans (ex_ln1)))))) (li := li) (e_li := show G52 3 = li from ((hF61.1 3 rfl).trans ((hF44.1 3 rfl).trans ((hF29.1 3 rfl).trans ((hF7.1 3 rfl).trans ((hFx.1 3 rfl).trans (e_li))))))) (fk := fk2_56) (e_fk := show G52 16 = fk2_56 from (e65)) (tk0 := tk2_59) (e_tk0 := show G52 11 = tk2_59 from (e68))    (p_0 := by omega)) (fun o V' hq => ?_)
            obtain ⟨G131, A132, ln2_133, fk2_134, rfl, rfl, hW135, hF136, e137, e138, q139⟩ := hq
            have hF140 := Fr_tr hF128 hF136 (Fr_sub (by decide)) (Fr_sub (by decide))
            have hP141 := Pf_f hP130 hF136 (by decide)
            have bln2_133 : (0 : Int) ≤ ln2_133 ∧ ln2_133 ≤ 3000 := e137 ▸ hW135.1 9
            have bfk2_134 : (0 : Int) ≤ fk2_134 ∧ fk2_134 ≤ 6 := e138 ▸ hW135.1 16
            refine .inl ⟨rfl, ?_⟩
            rcases q139 with ⟨a142, a143, a144, a145, a146⟩ | ⟨a147, a148⟩
            · have _q : True := trivial
              have b149 : (0 : Int) ≤ A 3 (ln2_133).toNat ∧ A 3 (ln2_133).toNat ≤ 3000 := hW.2 3 _
              have lt150 : ln2_133 < li → A 4 (ln1).toNat < A 3 (ln2_133).toNat := fun hh => LT_nx (LT_ext (((hF136.1 3 rfl).trans ((hF61.1 3 rfl).trans ((hF44.1 3 rfl).trans ((hF29.1 3 rfl).trans ((hF7.1 3 rfl).trans (hFx.1 3 rfl))))))) (((hF136.2 3 rfl).trans (((congrFun eA126 3).trans (uA_ne (by decide))).trans ((hF61.2 3 rfl).trans ((hF44.2 3 rfl).trans ((hF29.2 3 rfl).trans ((hF7.2 3 rfl).trans (hFx.2 3 rfl)))))))) (((hF136.2 4 rfl).trans (((congrFun eA126 4).trans (uA_ne (by decide))).trans ((hF61.2 4 rfl).trans ((hF44.2 4 rfl).trans ((hF29.2 4 rfl).trans ((hF7.2 4 rfl).trans (hFx.2 4 rfl)))))))) i_LT) (show G131 3 = li from ((hF136.1 3 rfl).trans ((hF61.1 3 rfl).trans ((hF44.1 3 rfl).trans ((hF29.1 3 rfl).trans ((hF7.1 3 rfl).trans ((hFx.1 3 rfl).trans (e_li)))))))) (show A132 4 (ln1).toNat = A 4 (ln1).toNat from (congrFun ((hF136.2 4 rfl).trans (((congrFun eA126 4).trans (uA_ne (by decide))).trans ((hF61.2 4 rfl).trans ((hF44.2 4 rfl).trans ((hF29.2 4 rfl).trans ((hF7.2 4 rfl).trans (hFx.2 4 rfl))))))) _)) (show A132 3 (ln2_133).toNat = A 3 (ln2_133).toNat from (congrFun ((hF136.2 3 rfl).trans (((congrFun eA126 3).trans (uA_ne (by decide))).trans ((hF61.2 3 rfl).trans ((hF44.2 3 rfl).trans ((hF29.2 3 rfl).trans ((hF7.2 3 rfl).trans (hFx.2 3 rfl))))))) _)) (show ln2_133 = ln1 + 1 by omega) (by omega) hh
              refine jx_ld (pc' := 61) (l' := L51) (st' := [.ref 66]) rfl (jl_aloadn gL51_0) ?_
              refine jx_vr (pc' := 64) (as := []) (st := []) rfl rfl rfl rfl ⟨rfl, rfl, Nat.le_of_ble_eq_true rfl⟩ rfl rfl (c_bad (dd := d) (hd := by omega) (hW := hW135)  (fk := fk2_134) (e_fk := show G131 16 = fk2_134 from (e138))    ) (fun o V' hq => ?_)
              obtain ⟨r151, rfl, rfl, b152, q153⟩ := hq
              refine .inr ⟨_, rfl, ?_⟩
              rcases q153 with ⟨rfl, a154⟩ | ⟨rfl, a155⟩
              · have _q : True := trivial
                exfalso
                omega
              · have _q : True := trivial
                refine jx_if_eq (pc' := 67) (tg := 71) rfl rfl rfl (by decide) (by decide) (fun h156 => ?_) (fun h156 => ?_)
                · have _q := h156
                  refine jx_ld (pc' := 72) (l' := L51) (st' := [.ref 66]) rfl (jl_aloadn gL51_0) ?_
                  refine jx_ld (pc' := 73) (l' := L51) (st' := [.int (i32 (lv)), .ref 66]) rfl (jl_iloadn gL51_1) ?_
                  refine jx_ar (pc' := 74) (st' := [.int (i32 (2)), .int (i32 (lv)), .ref 66]) rfl rfl rfl rfl ?_
                  refine jx_add (pc' := 75) rfl rfl ?_
                  refine jx_vr (pc' := 78) (as := [.int (i32 ((lv + 2)))]) (st := []) rfl rfl rfl rfl ⟨rfl, rfl, Nat.le_of_ble_eq_true rfl⟩ rfl rfl (hP (dd := d) (hd := by omega) (hW := hW135) (lv := (lv + 2)) (at0 := at2_55) (ln := ln2_133) (e_ln := show G131 9 = ln2_133 from (e137)) (li := li) (e_li := show G131 3 = li from ((hF136.1 3 rfl).trans ((hF61.1 3 rfl).trans ((hF44.1 3 rfl).trans ((hF29.1 3 rfl).trans ((hF7.1 3 rfl).trans ((hFx.1 3 rfl).trans (e_li)))))))) (fk := fk2_134) (e_fk := show G131 16 = fk2_134 from (e138)) (nd := nd2_58) (e_nd := show G131 31 = nd2_58 from ((hF136.1 31 rfl).trans (e67))) (sy := sy1) (e_sy := show G131 19 = sy1 from ((hF136.1 19 rfl).trans ((hF61.1 19 rfl).trans ((hF44.1 19 rfl).trans ((hF29.1 19 rfl).trans ((hF7.1 19 rfl).trans (ex_sy1))))))) (na := na1) (e_na := show G131 28 = na1 from ((hF136.1 28 rfl).trans ((hF61.1 28 rfl).trans ((hF44.1 28 rfl).trans ((hF29.1 28 rfl).trans ((hF7.1 28 rfl).trans (ex_na1))))))) (vi := vi1) (e_vi := show G131 29 = vi1 from ((hF136.1 29 rfl).trans ((hF61.1 29 rfl).trans ((hF44.1 29 rfl).trans ((hF29.1 29 rfl).trans ((hF7.1 29 rfl).trans (ex_vi1))))))) (lf := A 3 (ln2_133).toNat) (e_lf := show A132 3 (ln2_133).toNat = A 3 (ln2_133).toNat from (congrFun ((hF136.2 3 rfl).trans (((congrFun eA126 3).trans (uA_ne (by decide))).trans ((hF61.2 3 rfl).trans ((hF44.2 3 rfl).trans ((hF29.2 3 rfl).trans ((hF7.2 3 rfl).trans (hFx.2 3 rfl))))))) _)) (ac := at2_55) (e_ac := show G131 10 = at2_55 from ((hF136.1 10 rfl).trans (e64))) (i_LT := (LT_ext (((hF136.1 3 rfl).trans ((hF61.1 3 rfl).trans ((hF44.1 3 rfl).trans ((hF29.1 3 rfl).trans ((hF7.1 3 rfl).trans (hFx.1 3 rfl))))))) (((hF136.2 3 rfl).trans (((congrFun eA126 3).trans (uA_ne (by decide))).trans ((hF61.2 3 rfl).trans ((hF44.2 3 rfl).trans ((hF29.2 3 rfl).trans ((hF7.2 3 rfl).trans (hFx.2 3 rfl)))))))) (((hF136.2 4 rfl).trans (((congrFun eA126 4).trans (uA_ne (by decide))).trans ((hF61.2 4 rfl).trans ((hF44.2 4 rfl).trans ((hF29.2 4 rfl).trans ((hF7.2 4 rfl).trans (hFx.2 4 rfl)))))))) i_LT)) (h_lv := ⟨(by omega), (by omega)⟩)  (p_0 := by omega) (p_1 := by omega) (p_2 := by omega) (p_3 := by omega) (p_4 := by omega) (p_5 := by omega) (p_6 := by omega) (p_7 := by omega) (p_8 := by omega) (p_9 := by omega)) (fun o V' hq => ?_)
                  obtain ⟨G157, A158, r159, ln2_160, at2_161, fk2_162, nd2_163, sy2_164, na2_165, vi2_166, lf2_167, rfl, rfl, hW168, hF169, hQ170, b171, e172, e173, e174, e175, e176, e177, e178, e179, p180, p181, p182, p183, p184, p185, p186, p187, p188, q189⟩ := hq
                  have hF190 := Fr_tr hF140 hF169 (Fr_sub (by decide)) (Fr_sub (by decide))
                  have k191 : A158 17 (nd1).toNat = r54 := (hQ170 17 _ rfl (by omega)).trans (show A132 17 (nd1).toNat = r54 from (congrFun (hF136.2 17 rfl) _).trans (q129))
                  have hP192 := Pf_tr hP141 hQ170 (by omega)
                  have bln2_160 : (0 : Int) ≤ ln2_160 ∧ ln2_160 ≤ 3000 := e172 ▸ hW168.1 9
                  have bat2_161 : (0 : Int) ≤ at2_161 ∧ at2_161 ≤ 3002 := e173 ▸ hW168.1 10
                  have bfk2_162 : (0 : Int) ≤ fk2_162 ∧ fk2_162 ≤ 6 := e174 ▸ hW168.1 16
                  have bnd2_163 : (0 : Int) ≤ nd2_163 ∧ nd2_163 ≤ 6999 := e175 ▸ hW168.1 31
                  have bsy2_164 : (0 : Int) ≤ sy2_164 ∧ sy2_164 ≤ 202 := e176 ▸ hW168.1 19
                  have bna2_165 : (0 : Int) ≤ na2_165 ∧ na2_165 ≤ 200 := e177 ▸ hW168.1 28
                  have bvi2_166 : (0 : Int) ≤ vi2_166 ∧ vi2_166 ≤ 202 := e178 ▸ hW168.1 29
                  have blf2_167 : (0 : Int) ≤ lf2_167 ∧ lf2_167 ≤ 3000 := e179 ▸ hW168.2 3 _
                  refine .inr ⟨_, rfl, ?_⟩
                  rcases q189 with ⟨a193, a194⟩ | ⟨a195, a196, a197, a198, a199, a200⟩
                  · have _q : True := trivial
                    refine jx_ld (pc' := 80) (l' := jSto1 L51 5 (.int (i32 (r159)))) (st' := []) rfl rfl ?_
                    obtain ⟨L201, eL201⟩ : ∃ q, q = jSto1 L51 5 (.int (i32 (r159))) := ⟨_, rfl⟩
                    rw [← eL201]
                    have gL201_0 : jGet L201 0 = some (.ref 66) := eL201 ▸ jg_ne (by decide) gL51_0 rfl
                    have gL201_1 : jGet L201 1 = some (.int (i32 (lv))) := eL201 ▸ jg_ne (by decide) gL51_1 rfl
                    have gL201_2 : jGet L201 2 = some (.int (i32 (n))) := eL201 ▸ jg_ne (by decide) gL51_2 rfl
                    have gL201_3 : jGet L201 3 = some (.int (i32 (last))) := eL201 ▸ jg_ne (by decide) gL51_3 rfl
                    have gL201_4 : jGet L201 4 = some (.int (i32 (nd1))) := eL201 ▸ jg_ne (by decide) gL51_4 rfl
                    have gL201_5 : jGet L201 5 = some (.int (i32 (r159))) := eL201 ▸ jg_eq
                    refine jx_ld (pc' := 81) (l' := L201) (st' := [.ref 66]) rfl (jl_aloadn gL201_0) ?_
                    refine jx_vr (pc' := 84) (as := []) (st := []) rfl rfl rfl rfl ⟨rfl, rfl, Nat.le_of_ble_eq_true rfl⟩ rfl rfl (c_bad (dd := d) (hd := by omega) (hW := hW168)  (fk := fk2_162) (e_fk := show G157 16 = fk2_162 from (e174))    ) (fun o V' hq => ?_)
                    obtain ⟨r202, rfl, rfl, b203, q204⟩ := hq
                    refine .inr ⟨_, rfl, ?_⟩
                    rcases q204 with ⟨rfl, a205⟩ | ⟨rfl, a206⟩
                    · have _q : True := trivial
                      refine jx_if_eq (pc' := 87) (tg := 89) rfl rfl rfl (by decide) (by decide) (fun h207 => ?_) (fun h207 => ?_)
                      · have _q := h207
                        exact absurd h207 (by omega)
                      · have _q := h207
                        refine jx_ar (pc' := 88) (st' := [.int (i32 (0))]) rfl rfl rfl rfl ?_
                        refine jx_rt (v := some (.int (i32 (0)))) rfl rfl rfl rfl rfl rfl ?_
                        exact ⟨_, _, _, ln2_160, at2_161, fk2_162, nd2_163, sy2_164, na2_165, vi2_166, lf2_167, rfl, rfl, hW168, hF190, hP192, by omega, (e172), (e173), (e174), (e175), (e176), (e177), (e178), (e179), by omega, by omega, by omega, by omega, by omega, by omega, by omega, by omega, by omega, by omega, by first | exact Or.inl (⟨by omega, by omega⟩) | exact Or.inr ((⟨by omega, by omega, by omega, by omega, by omega, by omega, by omega⟩))⟩
                    · have _q : True := trivial
                      exfalso
                      omega
                  · have _q : True := trivial
                    refine jx_ld (pc' := 80) (l' := jSto1 L51 5 (.int (i32 (r159)))) (st' := []) rfl rfl ?_
                    obtain ⟨L208, eL208⟩ : ∃ q, q = jSto1 L51 5 (.int (i32 (r159))) := ⟨_, rfl⟩
                    rw [← eL208]
                    have gL208_0 : jGet L208 0 = some (.ref 66) := eL208 ▸ jg_ne (by decide) gL51_0 rfl
                    have gL208_1 : jGet L208 1 = some (.int (i32 (lv))) := eL208 ▸ jg_ne (by decide) gL51_1 rfl
                    have gL208_2 : jGet L208 2 = some (.int (i32 (n))) := eL208 ▸ jg_ne (by decide) gL51_2 rfl
                    have gL208_3 : jGet L208 3 = some (.int (i32 (last))) := eL208 ▸ jg_ne (by decide) gL51_3 rfl
                    have gL208_4 : jGet L208 4 = some (.int (i32 (nd1))) := eL208 ▸ jg_ne (by decide) gL51_4 rfl
                    have gL208_5 : jGet L208 5 = some (.int (i32 (r159))) := eL208 ▸ jg_eq
                    refine jx_ld (pc' := 81) (l' := L208) (st' := [.ref 66]) rfl (jl_aloadn gL208_0) ?_
                    refine jx_vr (pc' := 84) (as := []) (st := []) rfl rfl rfl rfl ⟨rfl, rfl, Nat.le_of_ble_eq_true rfl⟩ rfl rfl (c_bad (dd := d) (hd := by omega) (hW := hW168)  (fk := fk2_162) (e_fk := show G157 16 = fk2_162 from (e174))    ) (fun o V' hq => ?_)
                    obtain ⟨r209, rfl, rfl, b210, q211⟩ := hq
                    refine .inr ⟨_, rfl, ?_⟩
                    rcases q211 with ⟨rfl, a212⟩ | ⟨rfl, a213⟩
                    · have _q : True := trivial
                      exfalso
                      omega
                    · have _q : True := trivial
                      refine jx_if_eq (pc' := 87) (tg := 89) rfl rfl rfl (by decide) (by decide) (fun h214 => ?_) (fun h214 => ?_)
                      · have _q := h214
                        refine jx_ld (pc' := 90) (l' := L208) (st' := [.ref 66]) rfl (jl_aloadn gL208_0) ?_
                        refine jr_get (pc' := 93) (i := 38) (v := .ref 88) rfl rfl (by decide) rfl rfl ?_
                        refine jx_ld (pc' := 95) (l' := L208) (st' := [.int (i32 (nd1)), .ref 88]) rfl (jl_iload gL208_4) ?_
                        refine jx_ld (pc' := 97) (l' := L208) (st' := [.int (i32 (r159)), .int (i32 (nd1)), .ref 88]) rfl (jl_iload gL208_5) ?_
                        refine jr_st (pc' := 98) (i := 21) (m := 7000) (z := nd1) (y := r159) rfl (by decide) rfl (by decide) (by omega) (by omega) rfl ?_
                        have hW216 : Wk G157 (uA A158 21 (nd1).toNat (r159)) := Wk_a hW168 (show (-2147483648 : Int) ≤ r159 by omega) (show r159 ≤ (2147483647 : Int) by omega)
                        have hF217 := Fr_a (z := r159) (k := 21) (n := (nd1).toNat) hF190 (by decide)
                        obtain ⟨A215, eA215⟩ : ∃ q, q = uA A158 21 (nd1).toNat (r159) := ⟨_, rfl⟩
                        rw [← eA215]
                        rw [← eA215] at hW216 hF217
                        have q218 : A215 21 (nd1).toNat = r159 := by rw [eA215]; exact uA_eq
                        have hP219 : Pf nd A A215 := eA215 ▸ Pf_a hP192 (z := nd1) (by omega) (by omega)
                        refine jx_ld (pc' := 99) (l' := L208) (st' := [.ref 66]) rfl (jl_aloadn gL208_0) ?_
                        refine jx_ld (pc' := 100) (l' := L208) (st' := [.int (i32 (n)), .ref 66]) rfl (jl_iloadn gL208_2) ?_
                        refine jx_ld (pc' := 101) (l' := L208) (st' := [.int (i32 (last)), .int (i32 (n)), .ref 66]) rfl (jl_iloadn gL208_3) ?_
                        refine jx_ld (pc' := 103) (l' := L208) (st' := [.int (i32 (nd1)), .int (i32 (last)), .int (i32 (n)), .ref 66]) rfl (jl_iload gL208_4) ?_
                        refine jx_vr (pc' := 106) (as := [.int (i32 (n)), .int (i32 (last)), .int (i32 (nd1))]) (st := []) rfl rfl rfl rfl ⟨rfl, rfl, Nat.le_of_ble_eq_true rfl⟩ rfl rfl (c_addTo (dd := d) (zz := nd) (hd := by omega) (hW := hW216) (n := n) (last := last) (one := nd1)   (h_n := ⟨(Int.le_trans (by decide : (-2147483648 : Int) ≤ -2147483648) rx_n.1), (Int.le_trans rx_n.2 (by decide : (2147483647 : Int) ≤ 2147483647))⟩) (h_last := ⟨(Int.le_trans (by decide : (-2147483648 : Int) ≤ -2147483648) rx_last.1), (Int.le_trans rx_last.2 (by decide : (2147483647 : Int) ≤ 2147483647))⟩) (h_one := ⟨(Int.le_trans (by decide : (-2147483648 : Int) ≤ 0) b_nd1.1), (Int.le_trans b_nd1.2 (by decide : (6999 : Int) ≤ 2147483647))⟩)  (p_0 := by omega) (p_1 := by omega) (p_2 := by omega) (p_3 := by omega)) (fun o V' hq => ?_)
                        obtain ⟨G220, A221, rfl, rfl, hW222, hF223, hQ224, -⟩ := hq
                        have hF226 := Fr_tr hF217 hF223 (Fr_sub (by decide)) (Fr_sub (by decide))
                        have hP227 := Pf_tr hP219 hQ224 (by omega)
                        refine .inl ⟨rfl, ?_⟩
                        refine jx_ld (pc' := 108) (l' := L208) (st' := [.int (i32 (nd1))]) rfl (jl_iload gL208_4) ?_
                        refine jx_ld (pc' := 109) (l' := jSto1 L208 3 (.int (i32 (nd1)))) (st' := []) rfl rfl ?_
                        obtain ⟨L228, eL228⟩ : ∃ q, q = jSto1 L208 3 (.int (i32 (nd1))) := ⟨_, rfl⟩
                        rw [← eL228]
                        have gL228_0 : jGet L228 0 = some (.ref 66) := eL228 ▸ jg_ne (by decide) gL208_0 rfl
                        have gL228_1 : jGet L228 1 = some (.int (i32 (lv))) := eL228 ▸ jg_ne (by decide) gL208_1 rfl
                        have gL228_2 : jGet L228 2 = some (.int (i32 (n))) := eL228 ▸ jg_ne (by decide) gL208_2 rfl
                        have gL228_4 : jGet L228 4 = some (.int (i32 (nd1))) := eL228 ▸ jg_ne (by decide) gL208_4 rfl
                        have gL228_5 : jGet L228 5 = some (.int (i32 (r159))) := eL228 ▸ jg_ne (by decide) gL208_5 rfl
                        have gL228_3 : jGet L228 3 = some (.int (i32 (nd1))) := eL228 ▸ jg_eq
                        refine jx_go (tg := 21) rfl rfl ?_
                        exact ih21 _ (by omega) L228 G220 A221 (n) (nd1) (ln2_160) (at2_161) (fk2_162) (nd2_163) (sy2_164) (na2_165) (vi2_166) (lf2_167) rfl gL228_0 gL228_1 gL228_2 gL228_3 hW222 hF226 hP227 (((hF223.1 9 rfl).trans (e172))) (((hF223.1 10 rfl).trans (e173))) (((hF223.1 16 rfl).trans (e174))) (((hF223.1 31 rfl).trans (e175))) (((hF223.1 19 rfl).trans (e176))) (((hF223.1 28 rfl).trans (e177))) (((hF223.1 29 rfl).trans (e178))) ((congrFun ((hF223.2 3 rfl).trans ((congrFun eA215 3).trans (uA_ne (by decide)))) _).trans (e179)) (by omega) (by omega) (by omega) (by omega) (by omega) (by omega) (by omega) (by omega) (by omega) (by omega) (by omega) (by omega) (by omega) (by omega)
                      · have _q := h214
                        exact absurd h214 (by omega)
                · have _q := h156
                  exact absurd h156 (by omega)
            · have _q : True := trivial
              refine jx_ld (pc' := 61) (l' := L51) (st' := [.ref 66]) rfl (jl_aloadn gL51_0) ?_
              refine jx_vr (pc' := 64) (as := []) (st := []) rfl rfl rfl rfl ⟨rfl, rfl, Nat.le_of_ble_eq_true rfl⟩ rfl rfl (c_bad (dd := d) (hd := by omega) (hW := hW135)  (fk := fk2_134) (e_fk := show G131 16 = fk2_134 from (e138))    ) (fun o V' hq => ?_)
              obtain ⟨r229, rfl, rfl, b230, q231⟩ := hq
              refine .inr ⟨_, rfl, ?_⟩
              rcases q231 with ⟨rfl, a232⟩ | ⟨rfl, a233⟩
              · have _q : True := trivial
                refine jx_if_eq (pc' := 67) (tg := 71) rfl rfl rfl (by decide) (by decide) (fun h234 => ?_) (fun h234 => ?_)
                · have _q := h234
                  exact absurd h234 (by omega)
                · have _q := h234
                  refine jx_ar (pc' := 68) (st' := [.int (i32 (0))]) rfl rfl rfl rfl ?_
                  refine jx_go (tg := 78) rfl rfl ?_
                  refine jx_ld (pc' := 80) (l' := jSto1 L51 5 (.int (i32 (0)))) (st' := []) rfl rfl ?_
                  obtain ⟨L235, eL235⟩ : ∃ q, q = jSto1 L51 5 (.int (i32 (0))) := ⟨_, rfl⟩
                  rw [← eL235]
                  have gL235_0 : jGet L235 0 = some (.ref 66) := eL235 ▸ jg_ne (by decide) gL51_0 rfl
                  have gL235_1 : jGet L235 1 = some (.int (i32 (lv))) := eL235 ▸ jg_ne (by decide) gL51_1 rfl
                  have gL235_2 : jGet L235 2 = some (.int (i32 (n))) := eL235 ▸ jg_ne (by decide) gL51_2 rfl
                  have gL235_3 : jGet L235 3 = some (.int (i32 (last))) := eL235 ▸ jg_ne (by decide) gL51_3 rfl
                  have gL235_4 : jGet L235 4 = some (.int (i32 (nd1))) := eL235 ▸ jg_ne (by decide) gL51_4 rfl
                  have gL235_5 : jGet L235 5 = some (.int (i32 (0))) := eL235 ▸ jg_eq
                  refine jx_ld (pc' := 81) (l' := L235) (st' := [.ref 66]) rfl (jl_aloadn gL235_0) ?_
                  refine jx_vr (pc' := 84) (as := []) (st := []) rfl rfl rfl rfl ⟨rfl, rfl, Nat.le_of_ble_eq_true rfl⟩ rfl rfl (c_bad (dd := d) (hd := by omega) (hW := hW135)  (fk := fk2_134) (e_fk := show G131 16 = fk2_134 from (e138))    ) (fun o V' hq => ?_)
                  obtain ⟨r236, rfl, rfl, b237, q238⟩ := hq
                  refine .inr ⟨_, rfl, ?_⟩
                  rcases q238 with ⟨rfl, a239⟩ | ⟨rfl, a240⟩
                  · have _q : True := trivial
                    refine jx_if_eq (pc' := 87) (tg := 89) rfl rfl rfl (by decide) (by decide) (fun h241 => ?_) (fun h241 => ?_)
                    · have _q := h241
                      exact absurd h241 (by omega)
                    · have _q := h241
                      refine jx_ar (pc' := 88) (st' := [.int (i32 (0))]) rfl rfl rfl rfl ?_
                      refine jx_rt (v := some (.int (i32 (0)))) rfl rfl rfl rfl rfl rfl ?_
                      exact ⟨_, _, _, ln2_133, at2_55, fk2_134, nd2_58, sy1, na1, vi1, A 3 (ln2_133).toNat, rfl, rfl, hW135, hF140, hP141, by omega, (e137), ((hF136.1 10 rfl).trans (e64)), (e138), ((hF136.1 31 rfl).trans (e67)), ((hF136.1 19 rfl).trans ((hF61.1 19 rfl).trans ((hF44.1 19 rfl).trans ((hF29.1 19 rfl).trans ((hF7.1 19 rfl).trans (ex_sy1)))))), ((hF136.1 28 rfl).trans ((hF61.1 28 rfl).trans ((hF44.1 28 rfl).trans ((hF29.1 28 rfl).trans ((hF7.1 28 rfl).trans (ex_na1)))))), ((hF136.1 29 rfl).trans ((hF61.1 29 rfl).trans ((hF44.1 29 rfl).trans ((hF29.1 29 rfl).trans ((hF7.1 29 rfl).trans (ex_vi1)))))), (congrFun ((hF136.2 3 rfl).trans (((congrFun eA126 3).trans (uA_ne (by decide))).trans ((hF61.2 3 rfl).trans ((hF44.2 3 rfl).trans ((hF29.2 3 rfl).trans ((hF7.2 3 rfl).trans (hFx.2 3 rfl))))))) _), by omega, by omega, by omega, by omega, by omega, by omega, by omega, by omega, by omega, by omega, by first | exact Or.inl (⟨by omega, by omega⟩) | exact Or.inr ((⟨by omega, by omega, by omega, by omega, by omega, by omega, by omega⟩))⟩
                  · have _q : True := trivial
                    exfalso
                    omega
              · have _q : True := trivial
                exfalso
                omega
      · have _q : True := trivial
        refine jx_if_eq (pc' := 29) (tg := 112) rfl rfl rfl (by decide) (by decide) (fun h242 => ?_) (fun h242 => ?_)
        · have _q := h242
          refine jx_ld (pc' := 113) (l' := L) (st' := [.ref 66]) rfl (jl_aloadn gL_0) ?_
          refine jx_vr (pc' := 116) (as := []) (st := []) rfl rfl rfl rfl ⟨rfl, rfl, Nat.le_of_ble_eq_true rfl⟩ rfl rfl (c_bad (dd := d) (hd := by omega) (hW := hW6)  (fk := fk2_5) (e_fk := show G2 16 = fk2_5 from (e9))    ) (fun o V' hq => ?_)
          obtain ⟨r243, rfl, rfl, b244, q245⟩ := hq
          refine .inr ⟨_, rfl, ?_⟩
          rcases q245 with ⟨rfl, a246⟩ | ⟨rfl, a247⟩
          · have _q : True := trivial
            refine jx_if_ne (pc' := 119) (tg := 131) rfl rfl rfl (by decide) (by decide) (fun h248 => ?_) (fun h248 => ?_)
            · have _q := h248
              refine jx_ld (pc' := 132) (l' := L) (st' := [.int (i32 (n))]) rfl (jl_iloadn gL_2) ?_
              refine jx_rt (v := some (.int (i32 (n)))) rfl rfl rfl rfl rfl rfl ?_
              exact ⟨_, _, _, ln1, at1, fk2_5, nd1, sy1, na1, vi1, lf1, rfl, rfl, hW6, hF11, hP12, by omega, ((hF7.1 9 rfl).trans (ex_ln1)), ((hF7.1 10 rfl).trans (ex_at1)), (e9), ((hF7.1 31 rfl).trans (ex_nd1)), ((hF7.1 19 rfl).trans (ex_sy1)), ((hF7.1 28 rfl).trans (ex_na1)), ((hF7.1 29 rfl).trans (ex_vi1)), (congrFun (hF7.2 3 rfl) _).trans (ex_lf1), by omega, by omega, by omega, by omega, by omega, by omega, by omega, by omega, by omega, by omega, by first | exact Or.inl (⟨by omega, by omega⟩) | exact Or.inr ((⟨by omega, by omega, by omega, by omega, by omega, by omega, by omega⟩))⟩
            · have _q := h248
              exact absurd h248 (by omega)
          · have _q : True := trivial
            exfalso
            omega
        · have _q := h242
          exact absurd h242 (by omega)
      · have _q : True := trivial
        refine jx_if_eq (pc' := 29) (tg := 112) rfl rfl rfl (by decide) (by decide) (fun h249 => ?_) (fun h249 => ?_)
        · have _q := h249
          refine jx_ld (pc' := 113) (l' := L) (st' := [.ref 66]) rfl (jl_aloadn gL_0) ?_
          refine jx_vr (pc' := 116) (as := []) (st := []) rfl rfl rfl rfl ⟨rfl, rfl, Nat.le_of_ble_eq_true rfl⟩ rfl rfl (c_bad (dd := d) (hd := by omega) (hW := hW6)  (fk := fk2_5) (e_fk := show G2 16 = fk2_5 from (e9))    ) (fun o V' hq => ?_)
          obtain ⟨r250, rfl, rfl, b251, q252⟩ := hq
          refine .inr ⟨_, rfl, ?_⟩
          rcases q252 with ⟨rfl, a253⟩ | ⟨rfl, a254⟩
          · have _q : True := trivial
            exfalso
            omega
          · have _q : True := trivial
            refine jx_if_ne (pc' := 119) (tg := 131) rfl rfl rfl (by decide) (by decide) (fun h255 => ?_) (fun h255 => ?_)
            · have _q := h255
              exact absurd h255 (by omega)
            · have _q := h255
              refine jx_ld (pc' := 120) (l' := L) (st' := [.int (i32 (last))]) rfl (jl_iloadn gL_3) ?_
              refine jx_if_ne (pc' := 123) (tg := 131) rfl rfl rfl (Int.le_trans (by decide : (-2147483648 : Int) ≤ -2147483648) rx_last.1) (Int.le_trans rx_last.2 (by decide : (2147483647 : Int) ≤ 2147483647)) (fun h256 => ?_) (fun h256 => ?_)
              · have _q := h256
                refine jx_ld (pc' := 132) (l' := L) (st' := [.int (i32 (n))]) rfl (jl_iloadn gL_2) ?_
                refine jx_rt (v := some (.int (i32 (n)))) rfl rfl rfl rfl rfl rfl ?_
                exact ⟨_, _, _, ln1, at1, fk2_5, nd1, sy1, na1, vi1, lf1, rfl, rfl, hW6, hF11, hP12, by omega, ((hF7.1 9 rfl).trans (ex_ln1)), ((hF7.1 10 rfl).trans (ex_at1)), (e9), ((hF7.1 31 rfl).trans (ex_nd1)), ((hF7.1 19 rfl).trans (ex_sy1)), ((hF7.1 28 rfl).trans (ex_na1)), ((hF7.1 29 rfl).trans (ex_vi1)), (congrFun (hF7.2 3 rfl) _).trans (ex_lf1), by omega, by omega, by omega, by omega, by omega, by omega, by omega, by omega, by omega, by omega, by first | exact Or.inl (⟨by omega, by omega⟩) | exact Or.inr ((⟨by omega, by omega, by omega, by omega, by omega, by omega, by omega⟩))⟩
              · have _q := h256
                refine jx_ld (pc' := 124) (l' := L) (st' := [.ref 66]) rfl (jl_aloadn gL_0) ?_
                refine jx_ld (pc' := 125) (l' := L) (st' := [.int (i32 (lv)), .ref 66]) rfl (jl_iloadn gL_1) ?_
                refine jx_ar (pc' := 126) (st' := [.int (i32 (1)), .int (i32 (lv)), .ref 66]) rfl rfl rfl rfl ?_
                refine jx_add (pc' := 127) rfl rfl ?_
                refine jx_vr (pc' := 130) (as := [.int (i32 ((lv + 1)))]) (st := []) rfl rfl rfl rfl ⟨rfl, rfl, Nat.le_of_ble_eq_true rfl⟩ rfl rfl (c_needLevel (dd := d) (hd := by omega) (hW := hW6) (lv := (lv + 1)) (ln := ln1) (e_ln := show G2 9 = ln1 from ((hF7.1 9 rfl).trans (ex_ln1))) (li := li) (e_li := show G2 3 = li from ((hF7.1 3 rfl).trans ((hFx.1 3 rfl).trans (e_li)))) (fk := fk2_5) (e_fk := show G2 16 = fk2_5 from (e9)) (ll := A 5 (ln1).toNat) (e_ll := show A3 5 (ln1).toNat = A 5 (ln1).toNat from (congrFun ((hF7.2 5 rfl).trans (hFx.2 5 rfl)) _))  (h_lv := ⟨(by omega), (by omega)⟩)  ) (fun o V' hq => ?_)
                obtain ⟨G257, A258, r259, fk2_260, rfl, rfl, hW261, hF262, b263, e264, q265⟩ := hq
                have hF266 := Fr_tr hF11 hF262 (Fr_sub (by decide)) (Fr_sub (by decide))
                have hP267 := Pf_f hP12 hF262 (by decide)
                have bfk2_260 : (0 : Int) ≤ fk2_260 ∧ fk2_260 ≤ 6 := e264 ▸ hW261.1 16
                refine .inr ⟨_, rfl, ?_⟩
                rcases q265 with ⟨rfl, a268, a269, a270, a271⟩ | ⟨rfl, a272⟩
                · have _q : True := trivial
                  have b273 : (0 : Int) ≤ A 4 (ln1).toNat ∧ A 4 (ln1).toNat ≤ 3000 := hW.2 4 _
                  have lt274 : lf1 < A 4 (ln1).toNat := LT_at (LT_ext (((hF262.1 3 rfl).trans ((hF7.1 3 rfl).trans (hFx.1 3 rfl)))) (((hF262.2 3 rfl).trans ((hF7.2 3 rfl).trans (hFx.2 3 rfl)))) (((hF262.2 4 rfl).trans ((hF7.2 4 rfl).trans (hFx.2 4 rfl)))) i_LT) (show G257 3 = li from ((hF262.1 3 rfl).trans ((hF7.1 3 rfl).trans ((hFx.1 3 rfl).trans (e_li))))) (show A258 3 (ln1).toNat = lf1 from (congrFun ((hF262.2 3 rfl).trans (hF7.2 3 rfl)) _).trans (ex_lf1)) (show A258 4 (ln1).toNat = A 4 (ln1).toNat from (congrFun ((hF262.2 4 rfl).trans ((hF7.2 4 rfl).trans (hFx.2 4 rfl))) _)) (by omega) (by omega)
                  refine jx_ar (pc' := 131) (st' := []) rfl rfl rfl rfl ?_
                  refine jx_ld (pc' := 132) (l' := L) (st' := [.int (i32 (n))]) rfl (jl_iloadn gL_2) ?_
                  refine jx_rt (v := some (.int (i32 (n)))) rfl rfl rfl rfl rfl rfl ?_
                  exact ⟨_, _, _, ln1, at1, fk2_260, nd1, sy1, na1, vi1, lf1, rfl, rfl, hW261, hF266, hP267, by omega, ((hF262.1 9 rfl).trans ((hF7.1 9 rfl).trans (ex_ln1))), ((hF262.1 10 rfl).trans ((hF7.1 10 rfl).trans (ex_at1))), (e264), ((hF262.1 31 rfl).trans ((hF7.1 31 rfl).trans (ex_nd1))), ((hF262.1 19 rfl).trans ((hF7.1 19 rfl).trans (ex_sy1))), ((hF262.1 28 rfl).trans ((hF7.1 28 rfl).trans (ex_na1))), ((hF262.1 29 rfl).trans ((hF7.1 29 rfl).trans (ex_vi1))), (congrFun ((hF262.2 3 rfl).trans (hF7.2 3 rfl)) _).trans (ex_lf1), by omega, by omega, by omega, by omega, by omega, by omega, by omega, by omega, by omega, by omega, by first | exact Or.inl (⟨by omega, by omega⟩) | exact Or.inr ((⟨by omega, by omega, by omega, by omega, by omega, by omega, by omega⟩))⟩
                · have _q : True := trivial
                  refine jx_ar (pc' := 131) (st' := []) rfl rfl rfl rfl ?_
                  refine jx_ld (pc' := 132) (l' := L) (st' := [.int (i32 (n))]) rfl (jl_iloadn gL_2) ?_
                  refine jx_rt (v := some (.int (i32 (n)))) rfl rfl rfl rfl rfl rfl ?_
                  exact ⟨_, _, _, ln1, at1, fk2_260, nd1, sy1, na1, vi1, lf1, rfl, rfl, hW261, hF266, hP267, by omega, ((hF262.1 9 rfl).trans ((hF7.1 9 rfl).trans (ex_ln1))), ((hF262.1 10 rfl).trans ((hF7.1 10 rfl).trans (ex_at1))), (e264), ((hF262.1 31 rfl).trans ((hF7.1 31 rfl).trans (ex_nd1))), ((hF262.1 19 rfl).trans ((hF7.1 19 rfl).trans (ex_sy1))), ((hF262.1 28 rfl).trans ((hF7.1 28 rfl).trans (ex_na1))), ((hF262.1 29 rfl).trans ((hF7.1 29 rfl).trans (ex_vi1))), (congrFun ((hF262.2 3 rfl).trans (hF7.2 3 rfl)) _).trans (ex_lf1), by omega, by omega, by omega, by omega, by omega, by omega, by omega, by omega, by omega, by omega, by first | exact Or.inl (⟨by omega, by omega⟩) | exact Or.inr ((⟨by omega, by omega, by omega, by omega, by omega, by omega, by omega⟩))⟩
        · have _q := h249
          exact absurd h249 (by omega)
  refine jx_ld (pc' := 1) (l' := [(0, .ref 66), (1, .int (i32 (lv)))]) (st' := [.ref 66]) rfl (jl_aloadn rfl) ?_
  refine jx_ar (pc' := 3) (st' := [.int (i32 (30)), .ref 66]) rfl rfl rfl rfl ?_
  refine jx_ar (pc' := 4) (st' := [.int (i32 (0)), .int (i32 (30)), .ref 66]) rfl rfl rfl rfl ?_
  refine jx_ar (pc' := 5) (st' := [.int (i32 (0)), .int (i32 (0)), .int (i32 (30)), .ref 66]) rfl rfl rfl rfl ?_
  refine jx_ar (pc' := 6) (st' := [.int (i32 (0)), .int (i32 (0)), .int (i32 (0)), .int (i32 (30)), .ref 66]) rfl rfl rfl rfl ?_
  refine jx_ar (pc' := 7) (st' := [.int (i32 (0)), .int (i32 (0)), .int (i32 (0)), .int (i32 (0)), .int (i32 (30)), .ref 66]) rfl rfl rfl rfl ?_
  refine jx_vr (pc' := 10) (as := [.int (i32 (30)), .int (i32 (0)), .int (i32 (0)), .int (i32 (0)), .int (i32 (0))]) (st := []) rfl rfl rfl rfl ⟨rfl, rfl, Nat.le_of_ble_eq_true rfl⟩ rfl rfl (c_node (dd := d) (hd := by omega) (hW := hW) (kind := 30) (a := 0) (b := 0) (c := 0) (e := 0) (nd := nd) (e_nd := show G 31 = nd from (e_nd))  (h_kind := ⟨(by decide), (by decide)⟩) (h_a := ⟨(by decide), (by decide)⟩) (h_b := ⟨(by decide), (by decide)⟩) (h_c := ⟨(by decide), (by decide)⟩) (h_e := ⟨(by decide), (by decide)⟩)  (p_0 := by omega) (p_1 := by omega)) (fun o V' hq => ?_)
  obtain ⟨G275, A276, nd2_277, rfl, rfl, hW278, hF279, hQ280, e281, p282, -⟩ := hq
  have hF284 := Fr_tr hF0 hF279 (Fr_sub (by decide)) (Fr_sub (by decide))
  have hP285 := Pf_tr hP0 hQ280 (by omega)
  have bnd2_277 : (0 : Int) ≤ nd2_277 ∧ nd2_277 ≤ 6999 := e281 ▸ hW278.1 31
  refine .inr ⟨_, rfl, ?_⟩
  refine jx_ld (pc' := 11) (l' := jSto1 [(0, .ref 66), (1, .int (i32 (lv)))] 2 (.int (i32 (nd)))) (st' := []) rfl rfl ?_
  obtain ⟨L286, eL286⟩ : ∃ q, q = jSto1 [(0, .ref 66), (1, .int (i32 (lv)))] 2 (.int (i32 (nd))) := ⟨_, rfl⟩
  rw [← eL286]
  have gL286_0 : jGet L286 0 = some (.ref 66) := eL286 ▸ jg_ne (by decide) (rfl : jGet [(0, .ref 66), (1, .int (i32 (lv)))] 0 = some (.ref 66)) rfl
  have gL286_1 : jGet L286 1 = some (.int (i32 (lv))) := eL286 ▸ jg_ne (by decide) (rfl : jGet [(0, .ref 66), (1, .int (i32 (lv)))] 1 = some (.int (i32 (lv)))) rfl
  have gL286_2 : jGet L286 2 = some (.int (i32 (nd))) := eL286 ▸ jg_eq
  refine jx_ld (pc' := 12) (l' := L286) (st' := [.ref 66]) rfl (jl_aloadn gL286_0) ?_
  refine jx_vr (pc' := 15) (as := []) (st := []) rfl rfl rfl rfl ⟨rfl, rfl, Nat.le_of_ble_eq_true rfl⟩ rfl rfl (c_next (dd := d) (hd := by omega) (hW := hW278)  (ln := ln) (e_ln := show G275 9 = ln from ((hF279.1 9 rfl).trans (e_ln))) (le := le) (e_le := show A276 4 (ln).toNat = le from (congrFun (hF279.2 4 rfl) _).trans (e_le)) (at0 := at0) (e_at0 := show G275 10 = at0 from ((hF279.1 10 rfl).trans (e_at0)))    (p_0 := by omega)) (fun o V' hq => ?_)
  obtain ⟨G287, A288, at2_289, tk2_290, rfl, rfl, hW291, hF292, e293, e294, p295, p296, p297, -⟩ := hq
  have hF299 := Fr_tr hF284 hF292 (Fr_sub (by decide)) (Fr_sub (by decide))
  have hP300 := Pf_f hP285 hF292 (by decide)
  have bat2_289 : (0 : Int) ≤ at2_289 ∧ at2_289 ≤ 3002 := e293 ▸ hW291.1 10
  have ztk2_290 := tz_b tk2_290
  have btk2_290 : (0 : Int) ≤ tk2_290 ∧ tk2_290 ≤ 5 := e294 ▸ hW291.1 11
  refine .inl ⟨rfl, ?_⟩
  refine jx_ld (pc' := 16) (l' := L286) (st' := [.ref 66]) rfl (jl_aloadn gL286_0) ?_
  refine jx_vr (pc' := 19) (as := []) (st := []) rfl rfl rfl rfl ⟨rfl, rfl, Nat.le_of_ble_eq_true rfl⟩ rfl rfl (c_endLine (dd := d) (hd := by omega) (hW := hW291)  (ln := ln) (e_ln := show G287 9 = ln from ((hF292.1 9 rfl).trans ((hF279.1 9 rfl).trans (e_ln)))) (li := li) (e_li := show G287 3 = li from ((hF292.1 3 rfl).trans ((hF279.1 3 rfl).trans (e_li)))) (fk := fk) (e_fk := show G287 16 = fk from ((hF292.1 16 rfl).trans ((hF279.1 16 rfl).trans (e_fk)))) (tk0 := tk2_290) (e_tk0 := show G287 11 = tk2_290 from (e294))    (p_0 := by omega)) (fun o V' hq => ?_)
  obtain ⟨G301, A302, ln2_303, fk2_304, rfl, rfl, hW305, hF306, e307, e308, q309⟩ := hq
  have hF310 := Fr_tr hF299 hF306 (Fr_sub (by decide)) (Fr_sub (by decide))
  have hP311 := Pf_f hP300 hF306 (by decide)
  have bln2_303 : (0 : Int) ≤ ln2_303 ∧ ln2_303 ≤ 3000 := e307 ▸ hW305.1 9
  have bfk2_304 : (0 : Int) ≤ fk2_304 ∧ fk2_304 ≤ 6 := e308 ▸ hW305.1 16
  refine .inl ⟨rfl, ?_⟩
  rcases q309 with ⟨a312, a313, a314, a315, a316⟩ | ⟨a317, a318⟩
  · have _q : True := trivial
    have b319 : (0 : Int) ≤ A 3 (ln2_303).toNat ∧ A 3 (ln2_303).toNat ≤ 3000 := hW.2 3 _
    have lt320 : ln2_303 < li → le < A 3 (ln2_303).toNat := fun hh => LT_nx (LT_ext (((hF306.1 3 rfl).trans ((hF292.1 3 rfl).trans (hF279.1 3 rfl)))) (((hF306.2 3 rfl).trans ((hF292.2 3 rfl).trans (hF279.2 3 rfl)))) (((hF306.2 4 rfl).trans ((hF292.2 4 rfl).trans (hF279.2 4 rfl)))) i_LT) (show G301 3 = li from ((hF306.1 3 rfl).trans ((hF292.1 3 rfl).trans ((hF279.1 3 rfl).trans (e_li))))) (show A302 4 (ln).toNat = le from (congrFun ((hF306.2 4 rfl).trans ((hF292.2 4 rfl).trans (hF279.2 4 rfl))) _).trans (e_le)) (show A302 3 (ln2_303).toNat = A 3 (ln2_303).toNat from (congrFun ((hF306.2 3 rfl).trans ((hF292.2 3 rfl).trans (hF279.2 3 rfl))) _)) (show ln2_303 = ln + 1 by omega) (by omega) hh
    refine jx_ar (pc' := 20) (st' := [.int (i32 (0))]) rfl rfl rfl rfl ?_
    refine jx_ld (pc' := 21) (l' := jSto1 L286 3 (.int (i32 (0)))) (st' := []) rfl rfl ?_
    obtain ⟨L321, eL321⟩ : ∃ q, q = jSto1 L286 3 (.int (i32 (0))) := ⟨_, rfl⟩
    rw [← eL321]
    have gL321_0 : jGet L321 0 = some (.ref 66) := eL321 ▸ jg_ne (by decide) gL286_0 rfl
    have gL321_1 : jGet L321 1 = some (.int (i32 (lv))) := eL321 ▸ jg_ne (by decide) gL286_1 rfl
    have gL321_2 : jGet L321 2 = some (.int (i32 (nd))) := eL321 ▸ jg_ne (by decide) gL286_2 rfl
    have gL321_3 : jGet L321 3 = some (.int (i32 (0))) := eL321 ▸ jg_eq
    exact at_21 _ L321 G301 A302 (nd) (0) (ln2_303) (at2_289) (fk2_304) (nd2_277) (sy) (na) (vi) (A 3 (ln2_303).toNat) rfl gL321_0 gL321_1 gL321_2 gL321_3 hW305 hF310 hP311 ((e307)) (((hF306.1 10 rfl).trans (e293))) ((e308)) (((hF306.1 31 rfl).trans ((hF292.1 31 rfl).trans (e281)))) (((hF306.1 19 rfl).trans ((hF292.1 19 rfl).trans ((hF279.1 19 rfl).trans (e_sy))))) (((hF306.1 28 rfl).trans ((hF292.1 28 rfl).trans ((hF279.1 28 rfl).trans (e_na))))) (((hF306.1 29 rfl).trans ((hF292.1 29 rfl).trans ((hF279.1 29 rfl).trans (e_vi))))) ((congrFun ((hF306.2 3 rfl).trans ((hF292.2 3 rfl).trans (hF279.2 3 rfl))) _)) (by omega) (by omega) (by omega) (by omega) (by omega) (by omega) (by omega) (by omega) (by omega) (by omega) (by omega) (by omega) (by omega) (by omega)
  · have _q : True := trivial
    refine jx_ar (pc' := 20) (st' := [.int (i32 (0))]) rfl rfl rfl rfl ?_
    refine jx_ld (pc' := 21) (l' := jSto1 L286 3 (.int (i32 (0)))) (st' := []) rfl rfl ?_
    obtain ⟨L322, eL322⟩ : ∃ q, q = jSto1 L286 3 (.int (i32 (0))) := ⟨_, rfl⟩
    rw [← eL322]
    have gL322_0 : jGet L322 0 = some (.ref 66) := eL322 ▸ jg_ne (by decide) gL286_0 rfl
    have gL322_1 : jGet L322 1 = some (.int (i32 (lv))) := eL322 ▸ jg_ne (by decide) gL286_1 rfl
    have gL322_2 : jGet L322 2 = some (.int (i32 (nd))) := eL322 ▸ jg_ne (by decide) gL286_2 rfl
    have gL322_3 : jGet L322 3 = some (.int (i32 (0))) := eL322 ▸ jg_eq
    refine jx_ld (pc' := 22) (l' := L322) (st' := [.ref 66]) rfl (jl_aloadn gL322_0) ?_
    refine jx_ld (pc' := 23) (l' := L322) (st' := [.int (i32 (lv)), .ref 66]) rfl (jl_iloadn gL322_1) ?_
    have b323 : (-1 : Int) ≤ A 5 (ln2_303).toNat ∧ A 5 (ln2_303).toNat ≤ 15 := hW.2 5 _
    refine jx_vr (pc' := 26) (as := [.int (i32 (lv))]) (st := []) rfl rfl rfl rfl ⟨rfl, rfl, Nat.le_of_ble_eq_true rfl⟩ rfl rfl (c_isBelow (dd := d) (hd := by omega) (hW := hW305) (lv := lv) (ln := ln2_303) (e_ln := show G301 9 = ln2_303 from (e307)) (li := li) (e_li := show G301 3 = li from ((hF306.1 3 rfl).trans ((hF292.1 3 rfl).trans ((hF279.1 3 rfl).trans (e_li))))) (fk := fk2_304) (e_fk := show G301 16 = fk2_304 from (e308)) (ll := A 5 (ln2_303).toNat) (e_ll := show A302 5 (ln2_303).toNat = A 5 (ln2_303).toNat from (congrFun ((hF306.2 5 rfl).trans ((hF292.2 5 rfl).trans (hF279.2 5 rfl))) _))  (h_lv := ⟨(Int.le_trans (by decide : (-2147483648 : Int) ≤ -2147483648) h_lv.1), (Int.le_trans h_lv.2 (by decide : (2147483647 : Int) ≤ 2147483647))⟩)  (p_0 := by omega)) (fun o V' hq => ?_)
    obtain ⟨G324, A325, r326, fk2_327, rfl, rfl, hW328, hF329, b330, e331, q332⟩ := hq
    have hF333 := Fr_tr hF310 hF329 (Fr_sub (by decide)) (Fr_sub (by decide))
    have hP334 := Pf_f hP311 hF329 (by decide)
    have bfk2_327 : (0 : Int) ≤ fk2_327 ∧ fk2_327 ≤ 6 := e331 ▸ hW328.1 16
    refine .inr ⟨_, rfl, ?_⟩
    rcases q332 with ⟨rfl, a335, a336, a337, a338⟩ | ⟨rfl, a339⟩ | ⟨rfl, a340, a341⟩
    · have _q : True := trivial
      exfalso
      omega
    · have _q : True := trivial
      refine jx_if_eq (pc' := 29) (tg := 112) rfl rfl rfl (by decide) (by decide) (fun h342 => ?_) (fun h342 => ?_)
      · have _q := h342
        refine jx_ld (pc' := 113) (l' := L322) (st' := [.ref 66]) rfl (jl_aloadn gL322_0) ?_
        refine jx_vr (pc' := 116) (as := []) (st := []) rfl rfl rfl rfl ⟨rfl, rfl, Nat.le_of_ble_eq_true rfl⟩ rfl rfl (c_bad (dd := d) (hd := by omega) (hW := hW328)  (fk := fk2_327) (e_fk := show G324 16 = fk2_327 from (e331))    ) (fun o V' hq => ?_)
        obtain ⟨r343, rfl, rfl, b344, q345⟩ := hq
        refine .inr ⟨_, rfl, ?_⟩
        rcases q345 with ⟨rfl, a346⟩ | ⟨rfl, a347⟩
        · have _q : True := trivial
          refine jx_if_ne (pc' := 119) (tg := 131) rfl rfl rfl (by decide) (by decide) (fun h348 => ?_) (fun h348 => ?_)
          · have _q := h348
            refine jx_ld (pc' := 132) (l' := L322) (st' := [.int (i32 (nd))]) rfl (jl_iloadn gL322_2) ?_
            refine jx_rt (v := some (.int (i32 (nd)))) rfl rfl rfl rfl rfl rfl ?_
            exact ⟨_, _, _, ln2_303, at2_289, fk2_327, nd2_277, sy, na, vi, A 3 (ln2_303).toNat, rfl, rfl, hW328, hF333, hP334, by omega, ((hF329.1 9 rfl).trans (e307)), ((hF329.1 10 rfl).trans ((hF306.1 10 rfl).trans (e293))), (e331), ((hF329.1 31 rfl).trans ((hF306.1 31 rfl).trans ((hF292.1 31 rfl).trans (e281)))), ((hF329.1 19 rfl).trans ((hF306.1 19 rfl).trans ((hF292.1 19 rfl).trans ((hF279.1 19 rfl).trans (e_sy))))), ((hF329.1 28 rfl).trans ((hF306.1 28 rfl).trans ((hF292.1 28 rfl).trans ((hF279.1 28 rfl).trans (e_na))))), ((hF329.1 29 rfl).trans ((hF306.1 29 rfl).trans ((hF292.1 29 rfl).trans ((hF279.1 29 rfl).trans (e_vi))))), (congrFun ((hF329.2 3 rfl).trans ((hF306.2 3 rfl).trans ((hF292.2 3 rfl).trans (hF279.2 3 rfl)))) _), by omega, by omega, by omega, by omega, by omega, by omega, by omega, by omega, by omega, by omega, by first | exact Or.inl (⟨by omega, by omega⟩) | exact Or.inr ((⟨by omega, by omega, by omega, by omega, by omega, by omega, by omega⟩))⟩
          · have _q := h348
            exact absurd h348 (by omega)
        · have _q : True := trivial
          exfalso
          omega
      · have _q := h342
        exact absurd h342 (by omega)
    · have _q : True := trivial
      exfalso
      omega
