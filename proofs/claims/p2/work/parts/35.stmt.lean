set_option maxRecDepth 20000 in
set_option maxHeartbeats 4000000 in
theorem c_readAlt {X : jX} {k : Nat} (hP : RP X k) {dd : Nat} {c0 c1 : jC} {G : Nat → Int} {A : Nat → Nat → Int} {T : jH} {lv : Int} {ln li at0 fk nd sy na vi le op0 tk0 : Int} (hd : 8 * k + 82 ≤ dd) (hW : Wk G A) (e_ln : G 9 = ln) (e_li : G 3 = li) (e_at0 : G 10 = at0) (e_fk : G 16 = fk) (e_nd : G 31 = nd) (e_sy : G 19 = sy) (e_na : G 28 = na) (e_vi : G 29 = vi) (e_le : A 4 (ln).toNat = le) (e_op0 : G 15 = op0) (e_tk0 : G 11 = tk0) (i_LT : LT G A) (h_lv : (-2147483648 : Int) ≤ lv ∧ lv ≤ 2147483647) (p_0 : 0 ≤ lv ∧ lv ≤ 15) (p_1 : 18 - lv ≤ ((k + 1 : Nat) : Int)) (p_2 : fk = 0) (p_3 : ln < li) (p_4 : at0 ≤ le) (p_5 : op0 = 0) (p_6 : nd ≤ 2 * at0 - tz tk0 + 30) (p_7 : sy ≤ na + 2) (p_8 : vi ≤ sy) (p_9 : 1 ≤ tk0) : wk X dd 302 [.ref 66, .int (i32 lv)] (rV c0 c1 G A T) (fun o V' => ∃ (G' : Nat → Int) (A' : Nat → Nat → Int) (r : Int) (ln2 : Int) (at2 : Int) (fk2 : Int) (nd2 : Int) (sy2 : Int) (na2 : Int) (vi2 : Int) (lf2 : Int), V' = rV c0 c1 G' A' T ∧ o = .inl (some (.int (i32 r))) ∧ Wk G' A' ∧ Fr [9, 10, 11, 12, 13, 14, 15, 16, 17, 18, 19, 28, 29, 31] [6, 7, 8, 9, 10, 11, 12, 14, 15, 16, 17, 18, 19, 20, 21, 22, 23, 24, 28] G A G' A' ∧ Pf nd A A' ∧ ((-2147483648 : Int) ≤ r ∧ r ≤ 2147483647) ∧ G' 9 = ln2 ∧ G' 10 = at2 ∧ G' 16 = fk2 ∧ G' 31 = nd2 ∧ G' 19 = sy2 ∧ G' 28 = na2 ∧ G' 29 = vi2 ∧ A' 3 (ln2).toNat = lf2 ∧ (at0 ≤ at2) ∧ (nd ≤ nd2) ∧ (sy ≤ sy2) ∧ (sy2 ≤ na2 + 2) ∧ (vi ≤ vi2) ∧ (vi2 ≤ vi + 1) ∧ (0 ≤ r) ∧ (r ≤ 6999) ∧ (ln ≤ ln2) ∧ (ln2 ≤ li) ∧ (((1 ≤ fk2) ∧ (nd2 - nd ≤ 2 * at2 - (2 * at0 - tz tk0) + 14)) ∨ ((fk2 = 0) ∧ (vi2 = vi) ∧ (ln < ln2) ∧ (nd2 - nd ≤ 2 * at2 - (2 * at0 - tz tk0)) ∧ (at2 < lf2 ∨ li ≤ ln2) ∧ (nd ≤ r) ∧ (r < nd2)))) := by
  obtain ⟨d, rfl⟩ : ∃ d, dd = d + 1 := ⟨dd - 1, by omega⟩
  refine wk_of (e := jm302) rfl (Nat.le_of_ble_eq_true rfl) ?_
  show wj X d jm302 (0, [(0, .ref 66), (1, .int (i32 (lv)))], [], rV c0 c1 G A T) _
  have hF0 : Fr [9, 10, 11, 12, 13, 14, 15, 16, 17, 18, 19, 28, 29, 31] [6, 7, 8, 9, 10, 11, 12, 14, 15, 16, 17, 18, 19, 20, 21, 22, 23, 24, 28] G A G A := Fr_rf
  have hP0 : Pf nd A A := Pf_rf
  have b_ln : (0 : Int) ≤ ln ∧ ln ≤ 3000 := e_ln ▸ hW.1 9
  have b_li : (0 : Int) ≤ li ∧ li ≤ 3000 := e_li ▸ hW.1 3
  have b_at0 : (0 : Int) ≤ at0 ∧ at0 ≤ 3002 := e_at0 ▸ hW.1 10
  have b_fk : (0 : Int) ≤ fk ∧ fk ≤ 6 := e_fk ▸ hW.1 16
  have b_nd : (0 : Int) ≤ nd ∧ nd ≤ 6999 := e_nd ▸ hW.1 31
  have b_sy : (0 : Int) ≤ sy ∧ sy ≤ 202 := e_sy ▸ hW.1 19
  have b_na : (0 : Int) ≤ na ∧ na ≤ 200 := e_na ▸ hW.1 28
  have b_vi : (0 : Int) ≤ vi ∧ vi ≤ 202 := e_vi ▸ hW.1 29
  have b_le : (0 : Int) ≤ le ∧ le ≤ 3000 := e_le ▸ hW.2 4 _
  have b_op0 : (-2147483648 : Int) ≤ op0 ∧ op0 ≤ 2147483647 := e_op0 ▸ hW.1 15
  have z_tk0 := tz_f tk0
  have b_tk0 : (0 : Int) ≤ tk0 ∧ tk0 ≤ 5 := e_tk0 ▸ hW.1 11
  have at_24 : ∀ (m : Nat) (L : jL) (Gx : Nat → Int) (Ax : Nat → Nat → Int) (n last many ln1 at1 fk1 nd1 sy1 na1 vi1 lf1 : Int), (li - ln1).toNat = m → jGet L 0 = some (.ref 66) → jGet L 1 = some (.int (i32 (lv))) → jGet L 2 = some (.int (i32 n)) → jGet L 3 = some (.int (i32 last)) → jGet L 4 = some (.int (i32 many)) → Wk Gx Ax → Fr [9, 10, 11, 12, 13, 14, 15, 16, 17, 18, 19, 28, 29, 31] [6, 7, 8, 9, 10, 11, 12, 14, 15, 16, 17, 18, 19, 20, 21, 22, 23, 24, 28] G A Gx Ax → Pf nd A Ax → Gx 9 = ln1 → Gx 10 = at1 → Gx 16 = fk1 → Gx 31 = nd1 → Gx 19 = sy1 → Gx 28 = na1 → Gx 29 = vi1 → Ax 3 (ln1).toNat = lf1 → ((-2147483648 : Int) ≤ n ∧ n ≤ 2147483647) → ((-2147483648 : Int) ≤ last ∧ last ≤ 2147483647) → ((-2147483648 : Int) ≤ many ∧ many ≤ 2147483647) → (fk1 = 0) → (at0 ≤ at1) → (nd ≤ n ∧ n ≤ 6998 ∧ n < nd1) → (sy ≤ sy1) → (sy1 ≤ na1 + 2) → (vi1 = vi) → (ln < ln1) → (ln1 ≤ li) → (nd1 - nd ≤ 2 * at1 - (2 * at0 - tz tk0)) → (at1 < lf1 ∨ li ≤ ln1) → (0 ≤ last ∧ last ≤ 6998) → (last = 0 ∨ nd ≤ last) → (0 ≤ many ∧ many ≤ 8) → wj X d jm302 (24, L, [], rV c0 c1 Gx Ax T) (fun o V' => ∃ (G' : Nat → Int) (A' : Nat → Nat → Int) (r : Int) (ln2 : Int) (at2 : Int) (fk2 : Int) (nd2 : Int) (sy2 : Int) (na2 : Int) (vi2 : Int) (lf2 : Int), V' = rV c0 c1 G' A' T ∧ o = .inl (some (.int (i32 r))) ∧ Wk G' A' ∧ Fr [9, 10, 11, 12, 13, 14, 15, 16, 17, 18, 19, 28, 29, 31] [6, 7, 8, 9, 10, 11, 12, 14, 15, 16, 17, 18, 19, 20, 21, 22, 23, 24, 28] G A G' A' ∧ Pf nd A A' ∧ ((-2147483648 : Int) ≤ r ∧ r ≤ 2147483647) ∧ G' 9 = ln2 ∧ G' 10 = at2 ∧ G' 16 = fk2 ∧ G' 31 = nd2 ∧ G' 19 = sy2 ∧ G' 28 = na2 ∧ G' 29 = vi2 ∧ A' 3 (ln2).toNat = lf2 ∧ (at0 ≤ at2) ∧ (nd ≤ nd2) ∧ (sy ≤ sy2) ∧ (sy2 ≤ na2 + 2) ∧ (vi ≤ vi2) ∧ (vi2 ≤ vi + 1) ∧ (0 ≤ r) ∧ (r ≤ 6999) ∧ (ln ≤ ln2) ∧ (ln2 ≤ li) ∧ (((1 ≤ fk2) ∧ (nd2 - nd ≤ 2 * at2 - (2 * at0 - tz tk0) + 14)) ∨ ((fk2 = 0) ∧ (vi2 = vi) ∧ (ln < ln2) ∧ (nd2 - nd ≤ 2 * at2 - (2 * at0 - tz tk0)) ∧ (at2 < lf2 ∨ li ≤ ln2) ∧ (nd ≤ r) ∧ (r < nd2)))) := by
    intro m
    induction m using Nat.strongRecOn with
    | ind m ih24 =>
      intro L Gx Ax n last many ln1 at1 fk1 nd1 sy1 na1 vi1 lf1 hm gL_0 gL_1 gL_2 gL_3 gL_4 hWx hFx hPx ex_ln1 ex_at1 ex_fk1 ex_nd1 ex_sy1 ex_na1 ex_vi1 ex_lf1 rx_n rx_last rx_many iv_0 iv_1 iv_2 iv_3 iv_4 iv_5 iv_6 iv_7 iv_8 iv_9 iv_10 iv_11 iv_12
      have b_ln1 : (0 : Int) ≤ ln1 ∧ ln1 ≤ 3000 := ex_ln1 ▸ hWx.1 9
      have b_at1 : (0 : Int) ≤ at1 ∧ at1 ≤ 3002 := ex_at1 ▸ hWx.1 10
      have b_fk1 : (0 : Int) ≤ fk1 ∧ fk1 ≤ 6 := ex_fk1 ▸ hWx.1 16
      have b_nd1 : (0 : Int) ≤ nd1 ∧ nd1 ≤ 6999 := ex_nd1 ▸ hWx.1 31
      have b_sy1 : (0 : Int) ≤ sy1 ∧ sy1 ≤ 202 := ex_sy1 ▸ hWx.1 19
      have b_na1 : (0 : Int) ≤ na1 ∧ na1 ≤ 200 := ex_na1 ▸ hWx.1 28
      have b_vi1 : (0 : Int) ≤ vi1 ∧ vi1 ≤ 202 := ex_vi1 ▸ hWx.1 29
      refine jx_ld (pc' := 25) (l' := L) (st' := [.ref 66]) rfl (jl_aloadn gL_0) ?_
      refine jx_ld (pc' := 26) (l' := L) (st' := [.int (i32 (lv)), .ref 66]) rfl (jl_iloadn gL_1) ?_
      have b1 : (-1 : Int) ≤ A 5 (ln1).toNat ∧ A 5 (ln1).toNat ≤ 15 := hW.2 5 _
      refine jx_vr (pc' := 29) (as := [.int (i32 (lv))]) (st := []) rfl rfl rfl rfl ⟨rfl, rfl, Nat.le_of_ble_eq_true rfl⟩ rfl rfl (c_isBelow (dd := d) (hd := by omega) (hW := hWx) (lv := lv) (ln := ln1) (e_ln := show Gx 9 = ln1 from (ex_ln1)) (li := li) (e_li := show Gx 3 = li from ((hFx.1 3 rfl).trans (e_li))) (fk := fk1) (e_fk := show Gx 16 = fk1 from (ex_fk1)) (ll := A 5 (ln1).toNat) (e_ll := show Ax 5 (ln1).toNat = A 5 (ln1).toNat from (congrFun (hFx.2 5 rfl) _))  (h_lv := ⟨(Int.le_trans (by decide : (-2147483648 : Int) ≤ -2147483648) h_lv.1), (Int.le_trans h_lv.2 (by decide : (2147483647 : Int) ≤ 2147483647))⟩)  (p_0 := by omega)) (fun o V' hq => ?_)
      obtain ⟨G2, A3, r4, fk2_5, rfl, rfl, hW6, hF7, b8, e9, q10⟩ := hq
      have hF11 := Fr_tr hFx hF7 (Fr_sub (by decide)) (Fr_sub (by decide))
      have hP12 := Pf_f hPx hF7 (by decide)
      have bfk2_5 : (0 : Int) ≤ fk2_5 ∧ fk2_5 ≤ 6 := e9 ▸ hW6.1 16
      refine .inr ⟨_, rfl, ?_⟩
      rcases q10 with ⟨rfl, a13, a14, a15, a16⟩ | ⟨rfl, a17⟩ | ⟨rfl, a18, a19⟩
      · have _q : True := trivial
        have b20 : (0 : Int) ≤ A 4 (ln1).toNat ∧ A 4 (ln1).toNat ≤ 3000 := hW.2 4 _
        have lt21 : lf1 < A 4 (ln1).toNat := LT_at (LT_ext (((hF7.1 3 rfl).trans (hFx.1 3 rfl))) (((hF7.2 3 rfl).trans (hFx.2 3 rfl))) (((hF7.2 4 rfl).trans (hFx.2 4 rfl))) i_LT) (show G2 3 = li from ((hF7.1 3 rfl).trans ((hFx.1 3 rfl).trans (e_li)))) (show A3 3 (ln1).toNat = lf1 from (congrFun (hF7.2 3 rfl) _).trans (ex_lf1)) (show A3 4 (ln1).toNat = A 4 (ln1).toNat from (congrFun ((hF7.2 4 rfl).trans (hFx.2 4 rfl)) _)) (by omega) (by omega)
        refine jx_if_eq (pc' := 32) (tg := 130) rfl rfl rfl (by decide) (by decide) (fun h22 => ?_) (fun h22 => ?_)
        · have _q := h22
          exact absurd h22 (by omega)
        · have _q := h22
          refine jx_ld (pc' := 34) (l' := L) (st' := [.int (i32 (many))]) rfl (jl_iload gL_4) ?_
          refine jx_ar (pc' := 36) (st' := [.int (i32 (8)), .int (i32 (many))]) rfl rfl rfl rfl ?_
          refine jx_icmp_ne (pc' := 39) (tg := 65) rfl rfl rfl (Int.le_trans (by decide : (-2147483648 : Int) ≤ -2147483648) rx_many.1) (Int.le_trans rx_many.2 (by decide : (2147483647 : Int) ≤ 2147483647)) (by decide) (by decide) (fun h23 => ?_) (fun h23 => ?_)
          · have _q := h23
            refine jx_ld (pc' := 66) (l' := L) (st' := [.ref 66]) rfl (jl_aloadn gL_0) ?_
            refine jx_vr (pc' := 69) (as := []) (st := []) rfl rfl rfl rfl ⟨rfl, rfl, Nat.le_of_ble_eq_true rfl⟩ rfl rfl (c_openLine (dd := d) (hd := by omega) (hW := hW6)  (ln := ln1) (e_ln := show G2 9 = ln1 from ((hF7.1 9 rfl).trans (ex_ln1))) (le := A 4 (ln1).toNat) (e_le := show A3 4 (ln1).toNat = A 4 (ln1).toNat from (congrFun ((hF7.2 4 rfl).trans (hFx.2 4 rfl)) _)) (lf := lf1) (e_lf := show A3 3 (ln1).toNat = lf1 from (congrFun (hF7.2 3 rfl) _).trans (ex_lf1))    (p_0 := by omega)) (fun o V' hq => ?_)
            obtain ⟨G24, A25, at2_26, tk2_27, op2_28, rfl, rfl, hW29, hF30, e31, e32, e33, p34, p35, p36, p37, -⟩ := hq
            have hF39 := Fr_tr hF11 hF30 (Fr_sub (by decide)) (Fr_sub (by decide))
            have hP40 := Pf_f hP12 hF30 (by decide)
            have bat2_26 : (0 : Int) ≤ at2_26 ∧ at2_26 ≤ 3002 := e31 ▸ hW29.1 10
            have ztk2_27 := tz_b tk2_27
            have btk2_27 : (0 : Int) ≤ tk2_27 ∧ tk2_27 ≤ 5 := e32 ▸ hW29.1 11
            have bop2_28 : (-2147483648 : Int) ≤ op2_28 ∧ op2_28 ≤ 2147483647 := e33 ▸ hW29.1 15
            refine .inl ⟨rfl, ?_⟩
            refine jx_ld (pc' := 70) (l' := L) (st' := [.ref 66]) rfl (jl_aloadn gL_0) ?_
            refine jx_vr (pc' := 73) (as := []) (st := []) rfl rfl rfl rfl ⟨rfl, rfl, Nat.le_of_ble_eq_true rfl⟩ rfl rfl (c_readGuard (dd := d) (hd := by omega) (hW := hW29)  (ln := ln1) (e_ln := show G24 9 = ln1 from ((hF30.1 9 rfl).trans ((hF7.1 9 rfl).trans (ex_ln1)))) (le := A 4 (ln1).toNat) (e_le := show A25 4 (ln1).toNat = A 4 (ln1).toNat from (congrFun ((hF30.2 4 rfl).trans ((hF7.2 4 rfl).trans (hFx.2 4 rfl))) _)) (at0 := at2_26) (e_at0 := show G24 10 = at2_26 from (e31)) (fk := fk2_5) (e_fk := show G24 16 = fk2_5 from ((hF30.1 16 rfl).trans (e9))) (op0 := op2_28) (e_op0 := show G24 15 = op2_28 from (e33)) (nd := nd1) (e_nd := show G24 31 = nd1 from ((hF30.1 31 rfl).trans ((hF7.1 31 rfl).trans (ex_nd1)))) (tk0 := tk2_27) (e_tk0 := show G24 11 = tk2_27 from (e32)) (li := li) (e_li := show G24 3 = li from ((hF30.1 3 rfl).trans ((hF7.1 3 rfl).trans ((hFx.1 3 rfl).trans (e_li)))))    (p_0 := by omega) (p_1 := by omega) (p_2 := by omega) (p_3 := by omega) (p_4 := by omega)) (fun o V' hq => ?_)
            obtain ⟨G41, A42, r43, at2_44, fk2_45, nd2_46, ln2_47, rfl, rfl, hW48, hF49, hQ50, b51, e52, e53, e54, e55, p56, p57, p58, p59, p60, q61⟩ := hq
            have hF62 := Fr_tr hF39 hF49 (Fr_sub (by decide)) (Fr_sub (by decide))
            have hP63 := Pf_tr hP40 hQ50 (by omega)
            have bat2_44 : (0 : Int) ≤ at2_44 ∧ at2_44 ≤ 3002 := e52 ▸ hW48.1 10
            have bfk2_45 : (0 : Int) ≤ fk2_45 ∧ fk2_45 ≤ 6 := e53 ▸ hW48.1 16
            have bnd2_46 : (0 : Int) ≤ nd2_46 ∧ nd2_46 ≤ 6999 := e54 ▸ hW48.1 31
            have bln2_47 : (0 : Int) ≤ ln2_47 ∧ ln2_47 ≤ 3000 := e55 ▸ hW48.1 9
            refine .inr ⟨_, rfl, ?_⟩
            rcases q61 with ⟨a64, a65, a66⟩ | ⟨a67, a68, a69, a70, a71⟩
            · have _q : True := trivial
              refine jx_ld (pc' := 75) (l' := jSto1 L 5 (.int (i32 (r43)))) (st' := []) rfl rfl ?_
              obtain ⟨L72, eL72⟩ : ∃ q, q = jSto1 L 5 (.int (i32 (r43))) := ⟨_, rfl⟩
              rw [← eL72]
              have gL72_0 : jGet L72 0 = some (.ref 66) := eL72 ▸ jg_ne (by decide) gL_0 rfl
              have gL72_1 : jGet L72 1 = some (.int (i32 (lv))) := eL72 ▸ jg_ne (by decide) gL_1 rfl
              have gL72_2 : jGet L72 2 = some (.int (i32 (n))) := eL72 ▸ jg_ne (by decide) gL_2 rfl
              have gL72_3 : jGet L72 3 = some (.int (i32 (last))) := eL72 ▸ jg_ne (by decide) gL_3 rfl
              have gL72_4 : jGet L72 4 = some (.int (i32 (many))) := eL72 ▸ jg_ne (by decide) gL_4 rfl
              have gL72_5 : jGet L72 5 = some (.int (i32 (r43))) := eL72 ▸ jg_eq
              refine jx_ld (pc' := 76) (l' := L72) (st' := [.ref 66]) rfl (jl_aloadn gL72_0) ?_
              refine jx_vr (pc' := 79) (as := []) (st := []) rfl rfl rfl rfl ⟨rfl, rfl, Nat.le_of_ble_eq_true rfl⟩ rfl rfl (c_bad (dd := d) (hd := by omega) (hW := hW48)  (fk := fk2_45) (e_fk := show G41 16 = fk2_45 from (e53))    ) (fun o V' hq => ?_)
              obtain ⟨r73, rfl, rfl, b74, q75⟩ := hq
              refine .inr ⟨_, rfl, ?_⟩
              rcases q75 with ⟨rfl, a76⟩ | ⟨rfl, a77⟩
              · have _q : True := trivial
                refine jx_if_eq (pc' := 82) (tg := 86) rfl rfl rfl (by decide) (by decide) (fun h78 => ?_) (fun h78 => ?_)
                · have _q := h78
                  exact absurd h78 (by omega)
                · have _q := h78
                  refine jx_ar (pc' := 83) (st' := [.int (i32 (0))]) rfl rfl rfl rfl ?_
                  refine jx_go (tg := 93) rfl rfl ?_
                  refine jx_ld (pc' := 95) (l' := jSto1 L72 6 (.int (i32 (0)))) (st' := []) rfl rfl ?_
                  obtain ⟨L79, eL79⟩ : ∃ q, q = jSto1 L72 6 (.int (i32 (0))) := ⟨_, rfl⟩
                  rw [← eL79]
                  have gL79_0 : jGet L79 0 = some (.ref 66) := eL79 ▸ jg_ne (by decide) gL72_0 rfl
                  have gL79_1 : jGet L79 1 = some (.int (i32 (lv))) := eL79 ▸ jg_ne (by decide) gL72_1 rfl
                  have gL79_2 : jGet L79 2 = some (.int (i32 (n))) := eL79 ▸ jg_ne (by decide) gL72_2 rfl
                  have gL79_3 : jGet L79 3 = some (.int (i32 (last))) := eL79 ▸ jg_ne (by decide) gL72_3 rfl
                  have gL79_4 : jGet L79 4 = some (.int (i32 (many))) := eL79 ▸ jg_ne (by decide) gL72_4 rfl
                  have gL79_5 : jGet L79 5 = some (.int (i32 (r43))) := eL79 ▸ jg_ne (by decide) gL72_5 rfl
                  have gL79_6 : jGet L79 6 = some (.int (i32 (0))) := eL79 ▸ jg_eq
                  refine jx_ld (pc' := 96) (l' := L79) (st' := [.ref 66]) rfl (jl_aloadn gL79_0) ?_
                  refine jx_vr (pc' := 99) (as := []) (st := []) rfl rfl rfl rfl ⟨rfl, rfl, Nat.le_of_ble_eq_true rfl⟩ rfl rfl (c_bad (dd := d) (hd := by omega) (hW := hW48)  (fk := fk2_45) (e_fk := show G41 16 = fk2_45 from (e53))    ) (fun o V' hq => ?_)
                  obtain ⟨r80, rfl, rfl, b81, q82⟩ := hq
                  refine .inr ⟨_, rfl, ?_⟩
                  rcases q82 with ⟨rfl, a83⟩ | ⟨rfl, a84⟩
                  · have _q : True := trivial
                    refine jx_if_eq (pc' := 102) (tg := 104) rfl rfl rfl (by decide) (by decide) (fun h85 => ?_) (fun h85 => ?_)
                    · have _q := h85
                      exact absurd h85 (by omega)
                    · have _q := h85
                      refine jx_ar (pc' := 103) (st' := [.int (i32 (0))]) rfl rfl rfl rfl ?_
                      refine jx_rt (v := some (.int (i32 (0)))) rfl rfl rfl rfl rfl rfl ?_
                      exact ⟨_, _, _, ln2_47, at2_44, fk2_45, nd2_46, sy1, na1, vi1, A 3 (ln2_47).toNat, rfl, rfl, hW48, hF62, hP63, by omega, (e55), (e52), (e53), (e54), ((hF49.1 19 rfl).trans ((hF30.1 19 rfl).trans ((hF7.1 19 rfl).trans (ex_sy1)))), ((hF49.1 28 rfl).trans ((hF30.1 28 rfl).trans ((hF7.1 28 rfl).trans (ex_na1)))), ((hF49.1 29 rfl).trans ((hF30.1 29 rfl).trans ((hF7.1 29 rfl).trans (ex_vi1)))), (congrFun ((hF49.2 3 rfl).trans ((hF30.2 3 rfl).trans ((hF7.2 3 rfl).trans (hFx.2 3 rfl)))) _), by omega, by omega, by omega, by omega, by omega, by omega, by omega, by omega, by omega, by omega, by first | exact Or.inl (⟨by omega, by omega⟩) | exact Or.inr ((⟨by omega, by omega, by omega, by omega, by omega, by omega, by omega⟩))⟩
                  · have _q : True := trivial
                    exfalso
                    omega
              · have _q : True := trivial
                exfalso
                omega
            · have _q : True := trivial
              have b86 : (0 : Int) ≤ A 3 (ln2_47).toNat ∧ A 3 (ln2_47).toNat ≤ 3000 := hW.2 3 _
              have lt87 : ln2_47 < li → A 4 (ln1).toNat < A 3 (ln2_47).toNat := fun hh => LT_nx (LT_ext (((hF49.1 3 rfl).trans ((hF30.1 3 rfl).trans ((hF7.1 3 rfl).trans (hFx.1 3 rfl))))) (((hF49.2 3 rfl).trans ((hF30.2 3 rfl).trans ((hF7.2 3 rfl).trans (hFx.2 3 rfl))))) (((hF49.2 4 rfl).trans ((hF30.2 4 rfl).trans ((hF7.2 4 rfl).trans (hFx.2 4 rfl))))) i_LT) (show G41 3 = li from ((hF49.1 3 rfl).trans ((hF30.1 3 rfl).trans ((hF7.1 3 rfl).trans ((hFx.1 3 rfl).trans (e_li)))))) (show A42 4 (ln1).toNat = A 4 (ln1).toNat from (congrFun ((hF49.2 4 rfl).trans ((hF30.2 4 rfl).trans ((hF7.2 4 rfl).trans (hFx.2 4 rfl)))) _)) (show A42 3 (ln2_47).toNat = A 3 (ln2_47).toNat from (congrFun ((hF49.2 3 rfl).trans ((hF30.2 3 rfl).trans ((hF7.2 3 rfl).trans (hFx.2 3 rfl)))) _)) (show ln2_47 = ln1 + 1 by omega) (by omega) hh
              refine jx_ld (pc' := 75) (l' := jSto1 L 5 (.int (i32 (r43)))) (st' := []) rfl rfl ?_
              obtain ⟨L88, eL88⟩ : ∃ q, q = jSto1 L 5 (.int (i32 (r43))) := ⟨_, rfl⟩
              rw [← eL88]
              have gL88_0 : jGet L88 0 = some (.ref 66) := eL88 ▸ jg_ne (by decide) gL_0 rfl
              have gL88_1 : jGet L88 1 = some (.int (i32 (lv))) := eL88 ▸ jg_ne (by decide) gL_1 rfl
              have gL88_2 : jGet L88 2 = some (.int (i32 (n))) := eL88 ▸ jg_ne (by decide) gL_2 rfl
              have gL88_3 : jGet L88 3 = some (.int (i32 (last))) := eL88 ▸ jg_ne (by decide) gL_3 rfl
              have gL88_4 : jGet L88 4 = some (.int (i32 (many))) := eL88 ▸ jg_ne (by decide) gL_4 rfl
              have gL88_5 : jGet L88 5 = some (.int (i32 (r43))) := eL88 ▸ jg_eq
              refine jx_ld (pc' := 76) (l' := L88) (st' := [.ref 66]) rfl (jl_aloadn gL88_0) ?_
              refine jx_vr (pc' := 79) (as := []) (st := []) rfl rfl rfl rfl ⟨rfl, rfl, Nat.le_of_ble_eq_true rfl⟩ rfl rfl (c_bad (dd := d) (hd := by omega) (hW := hW48)  (fk := fk2_45) (e_fk := show G41 16 = fk2_45 from (e53))    ) (fun o V' hq => ?_)
              obtain ⟨r89, rfl, rfl, b90, q91⟩ := hq
              refine .inr ⟨_, rfl, ?_⟩
              rcases q91 with ⟨rfl, a92⟩ | ⟨rfl, a93⟩
              · have _q : True := trivial
                exfalso
                omega
              · have _q : True := trivial
                refine jx_if_eq (pc' := 82) (tg := 86) rfl rfl rfl (by decide) (by decide) (fun h94 => ?_) (fun h94 => ?_)
                · have _q := h94
                  refine jx_ld (pc' := 87) (l' := L88) (st' := [.ref 66]) rfl (jl_aloadn gL88_0) ?_
                  refine jx_ld (pc' := 88) (l' := L88) (st' := [.int (i32 (lv)), .ref 66]) rfl (jl_iloadn gL88_1) ?_
                  refine jx_ar (pc' := 89) (st' := [.int (i32 (2)), .int (i32 (lv)), .ref 66]) rfl rfl rfl rfl ?_
                  refine jx_add (pc' := 90) rfl rfl ?_
                  refine jx_vr (pc' := 93) (as := [.int (i32 ((lv + 2)))]) (st := []) rfl rfl rfl rfl ⟨rfl, rfl, Nat.le_of_ble_eq_true rfl⟩ rfl rfl (hP (dd := d) (hd := by omega) (hW := hW48) (lv := (lv + 2)) (at0 := at2_44) (ln := ln2_47) (e_ln := show G41 9 = ln2_47 from (e55)) (li := li) (e_li := show G41 3 = li from ((hF49.1 3 rfl).trans ((hF30.1 3 rfl).trans ((hF7.1 3 rfl).trans ((hFx.1 3 rfl).trans (e_li)))))) (fk := fk2_45) (e_fk := show G41 16 = fk2_45 from (e53)) (nd := nd2_46) (e_nd := show G41 31 = nd2_46 from (e54)) (sy := sy1) (e_sy := show G41 19 = sy1 from ((hF49.1 19 rfl).trans ((hF30.1 19 rfl).trans ((hF7.1 19 rfl).trans (ex_sy1))))) (na := na1) (e_na := show G41 28 = na1 from ((hF49.1 28 rfl).trans ((hF30.1 28 rfl).trans ((hF7.1 28 rfl).trans (ex_na1))))) (vi := vi1) (e_vi := show G41 29 = vi1 from ((hF49.1 29 rfl).trans ((hF30.1 29 rfl).trans ((hF7.1 29 rfl).trans (ex_vi1))))) (lf := A 3 (ln2_47).toNat) (e_lf := show A42 3 (ln2_47).toNat = A 3 (ln2_47).toNat from (congrFun ((hF49.2 3 rfl).trans ((hF30.2 3 rfl).trans ((hF7.2 3 rfl).trans (hFx.2 3 rfl)))) _)) (ac := at2_44) (e_ac := show G41 10 = at2_44 from (e52)) (i_LT := (LT_ext (((hF49.1 3 rfl).trans ((hF30.1 3 rfl).trans ((hF7.1 3 rfl).trans (hFx.1 3 rfl))))) (((hF49.2 3 rfl).trans ((hF30.2 3 rfl).trans ((hF7.2 3 rfl).trans (hFx.2 3 rfl))))) (((hF49.2 4 rfl).trans ((hF30.2 4 rfl).trans ((hF7.2 4 rfl).trans (hFx.2 4 rfl))))) i_LT)) (h_lv := ⟨(by omega), (by omega)⟩)  (p_0 := by omega) (p_1 := by omega) (p_2 := by omega) (p_3 := by omega) (p_4 := by omega) (p_5 := by omega) (p_6 := by omega) (p_7 := by omega) (p_8 := by omega) (p_9 := by omega)) (fun o V' hq => ?_)
                  obtain ⟨G95, A96, r97, ln2_98, at2_99, fk2_100, nd2_101, sy2_102, na2_103, vi2_104, lf2_105, rfl, rfl, hW106, hF107, hQ108, b109, e110, e111, e112, e113, e114, e115, e116, e117, p118, p119, p120, p121, p122, p123, p124, p125, p126, q127⟩ := hq
                  have hF128 := Fr_tr hF62 hF107 (Fr_sub (by decide)) (Fr_sub (by decide))
                  have hP129 := Pf_tr hP63 hQ108 (by omega)
                  have bln2_98 : (0 : Int) ≤ ln2_98 ∧ ln2_98 ≤ 3000 := e110 ▸ hW106.1 9
                  have bat2_99 : (0 : Int) ≤ at2_99 ∧ at2_99 ≤ 3002 := e111 ▸ hW106.1 10
                  have bfk2_100 : (0 : Int) ≤ fk2_100 ∧ fk2_100 ≤ 6 := e112 ▸ hW106.1 16
                  have bnd2_101 : (0 : Int) ≤ nd2_101 ∧ nd2_101 ≤ 6999 := e113 ▸ hW106.1 31
                  have bsy2_102 : (0 : Int) ≤ sy2_102 ∧ sy2_102 ≤ 202 := e114 ▸ hW106.1 19
                  have bna2_103 : (0 : Int) ≤ na2_103 ∧ na2_103 ≤ 200 := e115 ▸ hW106.1 28
                  have bvi2_104 : (0 : Int) ≤ vi2_104 ∧ vi2_104 ≤ 202 := e116 ▸ hW106.1 29
                  have blf2_105 : (0 : Int) ≤ lf2_105 ∧ lf2_105 ≤ 3000 := e117 ▸ hW106.2 3 _
                  refine .inr ⟨_, rfl, ?_⟩
                  rcases q127 with ⟨a130, a131⟩ | ⟨a132, a133, a134, a135, a136, a137⟩
                  · have _q : True := trivial
                    refine jx_ld (pc' := 95) (l' := jSto1 L88 6 (.int (i32 (r97)))) (st' := []) rfl rfl ?_
                    obtain ⟨L138, eL138⟩ : ∃ q, q = jSto1 L88 6 (.int (i32 (r97))) := ⟨_, rfl⟩
                    rw [← eL138]
                    have gL138_0 : jGet L138 0 = some (.ref 66) := eL138 ▸ jg_ne (by decide) gL88_0 rfl
                    have gL138_1 : jGet L138 1 = some (.int (i32 (lv))) := eL138 ▸ jg_ne (by decide) gL88_1 rfl
                    have gL138_2 : jGet L138 2 = some (.int (i32 (n))) := eL138 ▸ jg_ne (by decide) gL88_2 rfl
                    have gL138_3 : jGet L138 3 = some (.int (i32 (last))) := eL138 ▸ jg_ne (by decide) gL88_3 rfl
                    have gL138_4 : jGet L138 4 = some (.int (i32 (many))) := eL138 ▸ jg_ne (by decide) gL88_4 rfl
                    have gL138_5 : jGet L138 5 = some (.int (i32 (r43))) := eL138 ▸ jg_ne (by decide) gL88_5 rfl
                    have gL138_6 : jGet L138 6 = some (.int (i32 (r97))) := eL138 ▸ jg_eq
                    refine jx_ld (pc' := 96) (l' := L138) (st' := [.ref 66]) rfl (jl_aloadn gL138_0) ?_
                    refine jx_vr (pc' := 99) (as := []) (st := []) rfl rfl rfl rfl ⟨rfl, rfl, Nat.le_of_ble_eq_true rfl⟩ rfl rfl (c_bad (dd := d) (hd := by omega) (hW := hW106)  (fk := fk2_100) (e_fk := show G95 16 = fk2_100 from (e112))    ) (fun o V' hq => ?_)
                    obtain ⟨r139, rfl, rfl, b140, q141⟩ := hq
                    refine .inr ⟨_, rfl, ?_⟩
                    rcases q141 with ⟨rfl, a142⟩ | ⟨rfl, a143⟩
                    · have _q : True := trivial
                      refine jx_if_eq (pc' := 102) (tg := 104) rfl rfl rfl (by decide) (by decide) (fun h144 => ?_) (fun h144 => ?_)
                      · have _q := h144
                        exact absurd h144 (by omega)
                      · have _q := h144
                        refine jx_ar (pc' := 103) (st' := [.int (i32 (0))]) rfl rfl rfl rfl ?_
                        refine jx_rt (v := some (.int (i32 (0)))) rfl rfl rfl rfl rfl rfl ?_
                        exact ⟨_, _, _, ln2_98, at2_99, fk2_100, nd2_101, sy2_102, na2_103, vi2_104, lf2_105, rfl, rfl, hW106, hF128, hP129, by omega, (e110), (e111), (e112), (e113), (e114), (e115), (e116), (e117), by omega, by omega, by omega, by omega, by omega, by omega, by omega, by omega, by omega, by omega, by first | exact Or.inl (⟨by omega, by omega⟩) | exact Or.inr ((⟨by omega, by omega, by omega, by omega, by omega, by omega, by omega⟩))⟩
                    · have _q : True := trivial
                      exfalso
                      omega
                  · have _q : True := trivial
                    refine jx_ld (pc' := 95) (l' := jSto1 L88 6 (.int (i32 (r97)))) (st' := []) rfl rfl ?_
                    obtain ⟨L145, eL145⟩ : ∃ q, q = jSto1 L88 6 (.int (i32 (r97))) := ⟨_, rfl⟩
                    rw [← eL145]
                    have gL145_0 : jGet L145 0 = some (.ref 66) := eL145 ▸ jg_ne (by decide) gL88_0 rfl
                    have gL145_1 : jGet L145 1 = some (.int (i32 (lv))) := eL145 ▸ jg_ne (by decide) gL88_1 rfl
                    have gL145_2 : jGet L145 2 = some (.int (i32 (n))) := eL145 ▸ jg_ne (by decide) gL88_2 rfl
                    have gL145_3 : jGet L145 3 = some (.int (i32 (last))) := eL145 ▸ jg_ne (by decide) gL88_3 rfl
                    have gL145_4 : jGet L145 4 = some (.int (i32 (many))) := eL145 ▸ jg_ne (by decide) gL88_4 rfl
                    have gL145_5 : jGet L145 5 = some (.int (i32 (r43))) := eL145 ▸ jg_ne (by decide) gL88_5 rfl
                    have gL145_6 : jGet L145 6 = some (.int (i32 (r97))) := eL145 ▸ jg_eq
                    refine jx_ld (pc' := 96) (l' := L145) (st' := [.ref 66]) rfl (jl_aloadn gL145_0) ?_
                    refine jx_vr (pc' := 99) (as := []) (st := []) rfl rfl rfl rfl ⟨rfl, rfl, Nat.le_of_ble_eq_true rfl⟩ rfl rfl (c_bad (dd := d) (hd := by omega) (hW := hW106)  (fk := fk2_100) (e_fk := show G95 16 = fk2_100 from (e112))    ) (fun o V' hq => ?_)
                    obtain ⟨r146, rfl, rfl, b147, q148⟩ := hq
                    refine .inr ⟨_, rfl, ?_⟩
                    rcases q148 with ⟨rfl, a149⟩ | ⟨rfl, a150⟩
                    · have _q : True := trivial
                      exfalso
                      omega
                    · have _q : True := trivial
                      refine jx_if_eq (pc' := 102) (tg := 104) rfl rfl rfl (by decide) (by decide) (fun h151 => ?_) (fun h151 => ?_)
                      · have _q := h151
                        refine jx_ld (pc' := 105) (l' := L145) (st' := [.ref 66]) rfl (jl_aloadn gL145_0) ?_
                        refine jr_get (pc' := 108) (i := 38) (v := .ref 88) rfl rfl (by decide) rfl rfl ?_
                        refine jx_ld (pc' := 110) (l' := L145) (st' := [.int (i32 (r43)), .ref 88]) rfl (jl_iload gL145_5) ?_
                        refine jx_ld (pc' := 112) (l' := L145) (st' := [.int (i32 (r97)), .int (i32 (r43)), .ref 88]) rfl (jl_iload gL145_6) ?_
                        refine jr_st (pc' := 113) (i := 21) (m := 7000) (z := r43) (y := r97) rfl (by decide) rfl (by decide) (by omega) (by omega) rfl ?_
                        have hW153 : Wk G95 (uA A96 21 (r43).toNat (r97)) := Wk_a hW106 (show (-2147483648 : Int) ≤ r97 by omega) (show r97 ≤ (2147483647 : Int) by omega)
                        have hF154 := Fr_a (z := r97) (k := 21) (n := (r43).toNat) hF128 (by decide)
                        obtain ⟨A152, eA152⟩ : ∃ q, q = uA A96 21 (r43).toNat (r97) := ⟨_, rfl⟩
                        rw [← eA152]
                        rw [← eA152] at hW153 hF154
                        have q155 : A152 21 (r43).toNat = r97 := by rw [eA152]; exact uA_eq
                        have hP156 : Pf nd A A152 := eA152 ▸ Pf_a hP129 (z := r43) (by omega) (by omega)
                        refine jx_ld (pc' := 114) (l' := L145) (st' := [.ref 66]) rfl (jl_aloadn gL145_0) ?_
                        refine jx_ld (pc' := 115) (l' := L145) (st' := [.int (i32 (n)), .ref 66]) rfl (jl_iloadn gL145_2) ?_
                        refine jx_ld (pc' := 116) (l' := L145) (st' := [.int (i32 (last)), .int (i32 (n)), .ref 66]) rfl (jl_iloadn gL145_3) ?_
                        refine jx_ld (pc' := 118) (l' := L145) (st' := [.int (i32 (r43)), .int (i32 (last)), .int (i32 (n)), .ref 66]) rfl (jl_iload gL145_5) ?_
                        refine jx_vr (pc' := 121) (as := [.int (i32 (n)), .int (i32 (last)), .int (i32 (r43))]) (st := []) rfl rfl rfl rfl ⟨rfl, rfl, Nat.le_of_ble_eq_true rfl⟩ rfl rfl (c_addTo (dd := d) (zz := nd) (hd := by omega) (hW := hW153) (n := n) (last := last) (one := r43)   (h_n := ⟨(Int.le_trans (by decide : (-2147483648 : Int) ≤ -2147483648) rx_n.1), (Int.le_trans rx_n.2 (by decide : (2147483647 : Int) ≤ 2147483647))⟩) (h_last := ⟨(Int.le_trans (by decide : (-2147483648 : Int) ≤ -2147483648) rx_last.1), (Int.le_trans rx_last.2 (by decide : (2147483647 : Int) ≤ 2147483647))⟩) (h_one := ⟨(Int.le_trans (by decide : (-2147483648 : Int) ≤ -2147483648) b51.1), (Int.le_trans b51.2 (by decide : (2147483647 : Int) ≤ 2147483647))⟩)  (p_0 := by omega) (p_1 := by omega) (p_2 := by omega) (p_3 := by omega)) (fun o V' hq => ?_)
                        obtain ⟨G157, A158, rfl, rfl, hW159, hF160, hQ161, -⟩ := hq
                        have hF163 := Fr_tr hF154 hF160 (Fr_sub (by decide)) (Fr_sub (by decide))
                        have hP164 := Pf_tr hP156 hQ161 (by omega)
                        refine .inl ⟨rfl, ?_⟩
                        refine jx_ld (pc' := 123) (l' := L145) (st' := [.int (i32 (r43))]) rfl (jl_iload gL145_5) ?_
                        refine jx_ld (pc' := 124) (l' := jSto1 L145 3 (.int (i32 (r43)))) (st' := []) rfl rfl ?_
                        obtain ⟨L165, eL165⟩ : ∃ q, q = jSto1 L145 3 (.int (i32 (r43))) := ⟨_, rfl⟩
                        rw [← eL165]
                        have gL165_0 : jGet L165 0 = some (.ref 66) := eL165 ▸ jg_ne (by decide) gL145_0 rfl
                        have gL165_1 : jGet L165 1 = some (.int (i32 (lv))) := eL165 ▸ jg_ne (by decide) gL145_1 rfl
                        have gL165_2 : jGet L165 2 = some (.int (i32 (n))) := eL165 ▸ jg_ne (by decide) gL145_2 rfl
                        have gL165_4 : jGet L165 4 = some (.int (i32 (many))) := eL165 ▸ jg_ne (by decide) gL145_4 rfl
                        have gL165_5 : jGet L165 5 = some (.int (i32 (r43))) := eL165 ▸ jg_ne (by decide) gL145_5 rfl
                        have gL165_6 : jGet L165 6 = some (.int (i32 (r97))) := eL165 ▸ jg_ne (by decide) gL145_6 rfl
                        have gL165_3 : jGet L165 3 = some (.int (i32 (r43))) := eL165 ▸ jg_eq
                        refine jx_inc (pc' := 127) (l' := jSto1 L165 4 (.int (i32 ((many + (1)))))) (x := many) rfl gL165_4 (by decide) rfl rfl ?_
                        obtain ⟨L166, eL166⟩ : ∃ q, q = jSto1 L165 4 (.int (i32 ((many + (1))))) := ⟨_, rfl⟩
                        rw [← eL166]
                        have gL166_0 : jGet L166 0 = some (.ref 66) := eL166 ▸ jg_ne (by decide) gL165_0 rfl
                        have gL166_1 : jGet L166 1 = some (.int (i32 (lv))) := eL166 ▸ jg_ne (by decide) gL165_1 rfl
                        have gL166_2 : jGet L166 2 = some (.int (i32 (n))) := eL166 ▸ jg_ne (by decide) gL165_2 rfl
                        have gL166_5 : jGet L166 5 = some (.int (i32 (r43))) := eL166 ▸ jg_ne (by decide) gL165_5 rfl
                        have gL166_6 : jGet L166 6 = some (.int (i32 (r97))) := eL166 ▸ jg_ne (by decide) gL165_6 rfl
                        have gL166_3 : jGet L166 3 = some (.int (i32 (r43))) := eL166 ▸ jg_ne (by decide) gL165_3 rfl
                        have gL166_4 : jGet L166 4 = some (.int (i32 ((many + (1))))) := eL166 ▸ jg_eq
                        refine jx_go (tg := 24) rfl rfl ?_
                        exact ih24 _ (by omega) L166 G157 A158 (n) (r43) ((many + (1))) (ln2_98) (at2_99) (fk2_100) (nd2_101) (sy2_102) (na2_103) (vi2_104) (lf2_105) rfl gL166_0 gL166_1 gL166_2 gL166_3 gL166_4 hW159 hF163 hP164 (((hF160.1 9 rfl).trans (e110))) (((hF160.1 10 rfl).trans (e111))) (((hF160.1 16 rfl).trans (e112))) (((hF160.1 31 rfl).trans (e113))) (((hF160.1 19 rfl).trans (e114))) (((hF160.1 28 rfl).trans (e115))) (((hF160.1 29 rfl).trans (e116))) ((congrFun ((hF160.2 3 rfl).trans ((congrFun eA152 3).trans (uA_ne (by decide)))) _).trans (e117)) (by omega) (by omega) (by omega) (by omega) (by omega) (by omega) (by omega) (by omega) (by omega) (by omega) (by omega) (by omega) (by omega) (by omega) (by omega) (by omega)
                      · have _q := h151
                        exact absurd h151 (by omega)
                · have _q := h94
                  exact absurd h94 (by omega)
          · have _q := h23
            refine jx_ld (pc' := 40) (l' := L) (st' := [.ref 66]) rfl (jl_aloadn gL_0) ?_
            refine jx_ar (pc' := 41) (st' := [.int (i32 (1)), .ref 66]) rfl rfl rfl rfl ?_
            refine jx_ld (pc' := 42) (l' := L) (st' := [.ref 66, .int (i32 (1)), .ref 66]) rfl (jl_aloadn gL_0) ?_
            refine jr_get (pc' := 45) (i := 6) (v := .ref 70) rfl rfl (by decide) rfl rfl ?_
            refine jx_ld (pc' := 46) (l' := L) (st' := [.ref 66, .ref 70, .int (i32 (1)), .ref 66]) rfl (jl_aloadn gL_0) ?_
            refine jr_get (pc' := 49) (i := 9) (v := .int (i32 (ln1))) rfl rfl (by decide) (rFv_eq (by decide) (show G2 9 = ln1 from ((hF7.1 9 rfl).trans (ex_ln1)))) rfl ?_
            refine jr_ldv (pc' := 50) (i := 3) (m := 3001) (z := ln1) (y := lf1) rfl (by decide) rfl (by decide) (Int.le_trans (by decide : (0 : Int) ≤ 0) b_ln1.1) (Int.lt_of_le_of_lt b_ln1.2 (by decide : (3000 : Int) < ((3001 : Nat) : Int))) rfl (show A3 3 (ln1).toNat = lf1 from (congrFun (hF7.2 3 rfl) _).trans (ex_lf1)) ?_
            refine jx_ld (pc' := 51) (l' := L) (st' := [.ref 66, .int (i32 (lf1)), .int (i32 (1)), .ref 66]) rfl (jl_aloadn gL_0) ?_
            refine jr_get (pc' := 54) (i := 5) (v := .ref 69) rfl rfl (by decide) rfl rfl ?_
            refine jx_ld (pc' := 55) (l' := L) (st' := [.ref 66, .ref 69, .int (i32 (lf1)), .int (i32 (1)), .ref 66]) rfl (jl_aloadn gL_0) ?_
            refine jr_get (pc' := 58) (i := 9) (v := .int (i32 (ln1))) rfl rfl (by decide) (rFv_eq (by decide) (show G2 9 = ln1 from ((hF7.1 9 rfl).trans (ex_ln1)))) rfl ?_
            have b167 : (0 : Int) ≤ A 2 (ln1).toNat ∧ A 2 (ln1).toNat ≤ 3000 := hW.2 2 _
            refine jr_ldv (pc' := 59) (i := 2) (m := 3001) (z := ln1) (y := A 2 (ln1).toNat) rfl (by decide) rfl (by decide) (Int.le_trans (by decide : (0 : Int) ≤ 0) b_ln1.1) (Int.lt_of_le_of_lt b_ln1.2 (by decide : (3000 : Int) < ((3001 : Nat) : Int))) rfl (show A3 2 (ln1).toNat = A 2 (ln1).toNat from (congrFun ((hF7.2 2 rfl).trans (hFx.2 2 rfl)) _)) ?_
            refine jx_sub (pc' := 60) rfl rfl ?_
            refine jx_vr (pc' := 63) (as := [.int (i32 (1)), .int (i32 ((lf1 - A 2 (ln1).toNat)))]) (st := []) rfl rfl rfl rfl ⟨rfl, rfl, Nat.le_of_ble_eq_true rfl⟩ rfl rfl (c_fail (dd := d) (hd := by omega) (hW := hW6) (kind := 1) (place := (lf1 - A 2 (ln1).toNat)) (fk := fk2_5) (e_fk := show G2 16 = fk2_5 from (e9))  (h_kind := ⟨(by decide), (by decide)⟩) (h_place := ⟨(by omega), (by omega)⟩)  (p_0 := by omega) (p_1 := by omega)) (fun o V' hq => ?_)
            obtain ⟨G168, A169, fk2_170, rfl, rfl, hW171, hF172, e173, p174, -⟩ := hq
            have hF176 := Fr_tr hF11 hF172 (Fr_sub (by decide)) (Fr_sub (by decide))
            have hP177 := Pf_f hP12 hF172 (by decide)
            have bfk2_170 : (0 : Int) ≤ fk2_170 ∧ fk2_170 ≤ 6 := e173 ▸ hW171.1 16
            refine .inl ⟨rfl, ?_⟩
            refine jx_ar (pc' := 64) (st' := [.int (i32 (0))]) rfl rfl rfl rfl ?_
            refine jx_rt (v := some (.int (i32 (0)))) rfl rfl rfl rfl rfl rfl ?_
            exact ⟨_, _, _, ln1, at1, fk2_170, nd1, sy1, na1, vi1, lf1, rfl, rfl, hW171, hF176, hP177, by omega, ((hF172.1 9 rfl).trans ((hF7.1 9 rfl).trans (ex_ln1))), ((hF172.1 10 rfl).trans ((hF7.1 10 rfl).trans (ex_at1))), (e173), ((hF172.1 31 rfl).trans ((hF7.1 31 rfl).trans (ex_nd1))), ((hF172.1 19 rfl).trans ((hF7.1 19 rfl).trans (ex_sy1))), ((hF172.1 28 rfl).trans ((hF7.1 28 rfl).trans (ex_na1))), ((hF172.1 29 rfl).trans ((hF7.1 29 rfl).trans (ex_vi1))), (congrFun ((hF172.2 3 rfl).trans (hF7.2 3 rfl)) _).trans (ex_lf1), by omega, by omega, by omega, by omega, by omega, by omega, by omega, by omega, by omega, by omega, by first | exact Or.inl (⟨by omega, by omega⟩) | exact Or.inr ((⟨by omega, by omega, by omega, by omega, by omega, by omega, by omega⟩))⟩
      · have _q : True := trivial
        refine jx_if_eq (pc' := 32) (tg := 130) rfl rfl rfl (by decide) (by decide) (fun h178 => ?_) (fun h178 => ?_)
        · have _q := h178
          refine jx_ld (pc' := 131) (l' := L) (st' := [.ref 66]) rfl (jl_aloadn gL_0) ?_
          refine jx_vr (pc' := 134) (as := []) (st := []) rfl rfl rfl rfl ⟨rfl, rfl, Nat.le_of_ble_eq_true rfl⟩ rfl rfl (c_bad (dd := d) (hd := by omega) (hW := hW6)  (fk := fk2_5) (e_fk := show G2 16 = fk2_5 from (e9))    ) (fun o V' hq => ?_)
          obtain ⟨r179, rfl, rfl, b180, q181⟩ := hq
          refine .inr ⟨_, rfl, ?_⟩
          rcases q181 with ⟨rfl, a182⟩ | ⟨rfl, a183⟩
          · have _q : True := trivial
            refine jx_if_ne (pc' := 137) (tg := 150) rfl rfl rfl (by decide) (by decide) (fun h184 => ?_) (fun h184 => ?_)
            · have _q := h184
              refine jx_ld (pc' := 151) (l' := L) (st' := [.ref 66]) rfl (jl_aloadn gL_0) ?_
              refine jr_get (pc' := 154) (i := 35) (v := .ref 85) rfl rfl (by decide) rfl rfl ?_
              refine jx_ld (pc' := 155) (l' := L) (st' := [.int (i32 (n)), .ref 85]) rfl (jl_iloadn gL_2) ?_
              refine jx_ld (pc' := 157) (l' := L) (st' := [.int (i32 (many)), .int (i32 (n)), .ref 85]) rfl (jl_iload gL_4) ?_
              refine jr_st (pc' := 158) (i := 18) (m := 7000) (z := n) (y := many) rfl (by decide) rfl (by decide) (by omega) (by omega) rfl ?_
              have hW186 : Wk G2 (uA A3 18 (n).toNat (many)) := Wk_a hW6 (show (-2147483648 : Int) ≤ many by omega) (show many ≤ (2147483647 : Int) by omega)
              have hF187 := Fr_a (z := many) (k := 18) (n := (n).toNat) hF11 (by decide)
              obtain ⟨A185, eA185⟩ : ∃ q, q = uA A3 18 (n).toNat (many) := ⟨_, rfl⟩
              rw [← eA185]
              rw [← eA185] at hW186 hF187
              have q188 : A185 18 (n).toNat = many := by rw [eA185]; exact uA_eq
              have hP189 : Pf nd A A185 := eA185 ▸ Pf_a hP12 (z := n) (by omega) (by omega)
              refine jx_ld (pc' := 159) (l' := L) (st' := [.int (i32 (n))]) rfl (jl_iloadn gL_2) ?_
              refine jx_rt (v := some (.int (i32 (n)))) rfl rfl rfl rfl rfl rfl ?_
              exact ⟨_, _, _, ln1, at1, fk2_5, nd1, sy1, na1, vi1, lf1, rfl, rfl, hW186, hF187, hP189, by omega, ((hF7.1 9 rfl).trans (ex_ln1)), ((hF7.1 10 rfl).trans (ex_at1)), (e9), ((hF7.1 31 rfl).trans (ex_nd1)), ((hF7.1 19 rfl).trans (ex_sy1)), ((hF7.1 28 rfl).trans (ex_na1)), ((hF7.1 29 rfl).trans (ex_vi1)), (congrFun (((congrFun eA185 3).trans (uA_ne (by decide))).trans (hF7.2 3 rfl)) _).trans (ex_lf1), by omega, by omega, by omega, by omega, by omega, by omega, by omega, by omega, by omega, by omega, by first | exact Or.inl (⟨by omega, by omega⟩) | exact Or.inr ((⟨by omega, by omega, by omega, by omega, by omega, by omega, by omega⟩))⟩
            · have _q := h184
              exact absurd h184 (by omega)
          · have _q : True := trivial
            exfalso
            omega
        · have _q := h178
          exact absurd h178 (by omega)
      · have _q : True := trivial
        refine jx_if_eq (pc' := 32) (tg := 130) rfl rfl rfl (by decide) (by decide) (fun h190 => ?_) (fun h190 => ?_)
        · have _q := h190
          refine jx_ld (pc' := 131) (l' := L) (st' := [.ref 66]) rfl (jl_aloadn gL_0) ?_
          refine jx_vr (pc' := 134) (as := []) (st := []) rfl rfl rfl rfl ⟨rfl, rfl, Nat.le_of_ble_eq_true rfl⟩ rfl rfl (c_bad (dd := d) (hd := by omega) (hW := hW6)  (fk := fk2_5) (e_fk := show G2 16 = fk2_5 from (e9))    ) (fun o V' hq => ?_)
          obtain ⟨r191, rfl, rfl, b192, q193⟩ := hq
          refine .inr ⟨_, rfl, ?_⟩
          rcases q193 with ⟨rfl, a194⟩ | ⟨rfl, a195⟩
          · have _q : True := trivial
            exfalso
            omega
          · have _q : True := trivial
            refine jx_if_ne (pc' := 137) (tg := 150) rfl rfl rfl (by decide) (by decide) (fun h196 => ?_) (fun h196 => ?_)
            · have _q := h196
              exact absurd h196 (by omega)
            · have _q := h196
              refine jx_ld (pc' := 139) (l' := L) (st' := [.int (i32 (many))]) rfl (jl_iload gL_4) ?_
              refine jx_if_ne (pc' := 142) (tg := 150) rfl rfl rfl (Int.le_trans (by decide : (-2147483648 : Int) ≤ -2147483648) rx_many.1) (Int.le_trans rx_many.2 (by decide : (2147483647 : Int) ≤ 2147483647)) (fun h197 => ?_) (fun h197 => ?_)
              · have _q := h197
                refine jx_ld (pc' := 151) (l' := L) (st' := [.ref 66]) rfl (jl_aloadn gL_0) ?_
                refine jr_get (pc' := 154) (i := 35) (v := .ref 85) rfl rfl (by decide) rfl rfl ?_
                refine jx_ld (pc' := 155) (l' := L) (st' := [.int (i32 (n)), .ref 85]) rfl (jl_iloadn gL_2) ?_
                refine jx_ld (pc' := 157) (l' := L) (st' := [.int (i32 (many)), .int (i32 (n)), .ref 85]) rfl (jl_iload gL_4) ?_
                refine jr_st (pc' := 158) (i := 18) (m := 7000) (z := n) (y := many) rfl (by decide) rfl (by decide) (by omega) (by omega) rfl ?_
                have hW199 : Wk G2 (uA A3 18 (n).toNat (many)) := Wk_a hW6 (show (-2147483648 : Int) ≤ many by omega) (show many ≤ (2147483647 : Int) by omega)
                have hF200 := Fr_a (z := many) (k := 18) (n := (n).toNat) hF11 (by decide)
                obtain ⟨A198, eA198⟩ : ∃ q, q = uA A3 18 (n).toNat (many) := ⟨_, rfl⟩
                rw [← eA198]
                rw [← eA198] at hW199 hF200
                have q201 : A198 18 (n).toNat = many := by rw [eA198]; exact uA_eq
                have hP202 : Pf nd A A198 := eA198 ▸ Pf_a hP12 (z := n) (by omega) (by omega)
                refine jx_ld (pc' := 159) (l' := L) (st' := [.int (i32 (n))]) rfl (jl_iloadn gL_2) ?_
                refine jx_rt (v := some (.int (i32 (n)))) rfl rfl rfl rfl rfl rfl ?_
                exact ⟨_, _, _, ln1, at1, fk2_5, nd1, sy1, na1, vi1, lf1, rfl, rfl, hW199, hF200, hP202, by omega, ((hF7.1 9 rfl).trans (ex_ln1)), ((hF7.1 10 rfl).trans (ex_at1)), (e9), ((hF7.1 31 rfl).trans (ex_nd1)), ((hF7.1 19 rfl).trans (ex_sy1)), ((hF7.1 28 rfl).trans (ex_na1)), ((hF7.1 29 rfl).trans (ex_vi1)), (congrFun (((congrFun eA198 3).trans (uA_ne (by decide))).trans (hF7.2 3 rfl)) _).trans (ex_lf1), by omega, by omega, by omega, by omega, by omega, by omega, by omega, by omega, by omega, by omega, by first | exact Or.inl (⟨by omega, by omega⟩) | exact Or.inr ((⟨by omega, by omega, by omega, by omega, by omega, by omega, by omega⟩))⟩
              · have _q := h197
                refine jx_ld (pc' := 143) (l' := L) (st' := [.ref 66]) rfl (jl_aloadn gL_0) ?_
                refine jx_ld (pc' := 144) (l' := L) (st' := [.int (i32 (lv)), .ref 66]) rfl (jl_iloadn gL_1) ?_
                refine jx_ar (pc' := 145) (st' := [.int (i32 (1)), .int (i32 (lv)), .ref 66]) rfl rfl rfl rfl ?_
                refine jx_add (pc' := 146) rfl rfl ?_
                refine jx_vr (pc' := 149) (as := [.int (i32 ((lv + 1)))]) (st := []) rfl rfl rfl rfl ⟨rfl, rfl, Nat.le_of_ble_eq_true rfl⟩ rfl rfl (c_needLevel (dd := d) (hd := by omega) (hW := hW6) (lv := (lv + 1)) (ln := ln1) (e_ln := show G2 9 = ln1 from ((hF7.1 9 rfl).trans (ex_ln1))) (li := li) (e_li := show G2 3 = li from ((hF7.1 3 rfl).trans ((hFx.1 3 rfl).trans (e_li)))) (fk := fk2_5) (e_fk := show G2 16 = fk2_5 from (e9)) (ll := A 5 (ln1).toNat) (e_ll := show A3 5 (ln1).toNat = A 5 (ln1).toNat from (congrFun ((hF7.2 5 rfl).trans (hFx.2 5 rfl)) _))  (h_lv := ⟨(by omega), (by omega)⟩)  ) (fun o V' hq => ?_)
                obtain ⟨G203, A204, r205, fk2_206, rfl, rfl, hW207, hF208, b209, e210, q211⟩ := hq
                have hF212 := Fr_tr hF11 hF208 (Fr_sub (by decide)) (Fr_sub (by decide))
                have hP213 := Pf_f hP12 hF208 (by decide)
                have bfk2_206 : (0 : Int) ≤ fk2_206 ∧ fk2_206 ≤ 6 := e210 ▸ hW207.1 16
                refine .inr ⟨_, rfl, ?_⟩
                rcases q211 with ⟨rfl, a214, a215, a216, a217⟩ | ⟨rfl, a218⟩
                · have _q : True := trivial
                  have b219 : (0 : Int) ≤ A 4 (ln1).toNat ∧ A 4 (ln1).toNat ≤ 3000 := hW.2 4 _
                  have lt220 : lf1 < A 4 (ln1).toNat := LT_at (LT_ext (((hF208.1 3 rfl).trans ((hF7.1 3 rfl).trans (hFx.1 3 rfl)))) (((hF208.2 3 rfl).trans ((hF7.2 3 rfl).trans (hFx.2 3 rfl)))) (((hF208.2 4 rfl).trans ((hF7.2 4 rfl).trans (hFx.2 4 rfl)))) i_LT) (show G203 3 = li from ((hF208.1 3 rfl).trans ((hF7.1 3 rfl).trans ((hFx.1 3 rfl).trans (e_li))))) (show A204 3 (ln1).toNat = lf1 from (congrFun ((hF208.2 3 rfl).trans (hF7.2 3 rfl)) _).trans (ex_lf1)) (show A204 4 (ln1).toNat = A 4 (ln1).toNat from (congrFun ((hF208.2 4 rfl).trans ((hF7.2 4 rfl).trans (hFx.2 4 rfl))) _)) (by omega) (by omega)
                  refine jx_ar (pc' := 150) (st' := []) rfl rfl rfl rfl ?_
                  refine jx_ld (pc' := 151) (l' := L) (st' := [.ref 66]) rfl (jl_aloadn gL_0) ?_
                  refine jr_get (pc' := 154) (i := 35) (v := .ref 85) rfl rfl (by decide) rfl rfl ?_
                  refine jx_ld (pc' := 155) (l' := L) (st' := [.int (i32 (n)), .ref 85]) rfl (jl_iloadn gL_2) ?_
                  refine jx_ld (pc' := 157) (l' := L) (st' := [.int (i32 (many)), .int (i32 (n)), .ref 85]) rfl (jl_iload gL_4) ?_
                  refine jr_st (pc' := 158) (i := 18) (m := 7000) (z := n) (y := many) rfl (by decide) rfl (by decide) (by omega) (by omega) rfl ?_
                  have hW222 : Wk G203 (uA A204 18 (n).toNat (many)) := Wk_a hW207 (show (-2147483648 : Int) ≤ many by omega) (show many ≤ (2147483647 : Int) by omega)
                  have hF223 := Fr_a (z := many) (k := 18) (n := (n).toNat) hF212 (by decide)
                  obtain ⟨A221, eA221⟩ : ∃ q, q = uA A204 18 (n).toNat (many) := ⟨_, rfl⟩
                  rw [← eA221]
                  rw [← eA221] at hW222 hF223
                  have q224 : A221 18 (n).toNat = many := by rw [eA221]; exact uA_eq
                  have hP225 : Pf nd A A221 := eA221 ▸ Pf_a hP213 (z := n) (by omega) (by omega)
                  refine jx_ld (pc' := 159) (l' := L) (st' := [.int (i32 (n))]) rfl (jl_iloadn gL_2) ?_
                  refine jx_rt (v := some (.int (i32 (n)))) rfl rfl rfl rfl rfl rfl ?_
                  exact ⟨_, _, _, ln1, at1, fk2_206, nd1, sy1, na1, vi1, lf1, rfl, rfl, hW222, hF223, hP225, by omega, ((hF208.1 9 rfl).trans ((hF7.1 9 rfl).trans (ex_ln1))), ((hF208.1 10 rfl).trans ((hF7.1 10 rfl).trans (ex_at1))), (e210), ((hF208.1 31 rfl).trans ((hF7.1 31 rfl).trans (ex_nd1))), ((hF208.1 19 rfl).trans ((hF7.1 19 rfl).trans (ex_sy1))), ((hF208.1 28 rfl).trans ((hF7.1 28 rfl).trans (ex_na1))), ((hF208.1 29 rfl).trans ((hF7.1 29 rfl).trans (ex_vi1))), (congrFun (((congrFun eA221 3).trans (uA_ne (by decide))).trans ((hF208.2 3 rfl).trans (hF7.2 3 rfl))) _).trans (ex_lf1), by omega, by omega, by omega, by omega, by omega, by omega, by omega, by omega, by omega, by omega, by first | exact Or.inl (⟨by omega, by omega⟩) | exact Or.inr ((⟨by omega, by omega, by omega, by omega, by omega, by omega, by omega⟩))⟩
                · have _q : True := trivial
                  refine jx_ar (pc' := 150) (st' := []) rfl rfl rfl rfl ?_
                  refine jx_ld (pc' := 151) (l' := L) (st' := [.ref 66]) rfl (jl_aloadn gL_0) ?_
                  refine jr_get (pc' := 154) (i := 35) (v := .ref 85) rfl rfl (by decide) rfl rfl ?_
                  refine jx_ld (pc' := 155) (l' := L) (st' := [.int (i32 (n)), .ref 85]) rfl (jl_iloadn gL_2) ?_
                  refine jx_ld (pc' := 157) (l' := L) (st' := [.int (i32 (many)), .int (i32 (n)), .ref 85]) rfl (jl_iload gL_4) ?_
                  refine jr_st (pc' := 158) (i := 18) (m := 7000) (z := n) (y := many) rfl (by decide) rfl (by decide) (by omega) (by omega) rfl ?_
                  have hW227 : Wk G203 (uA A204 18 (n).toNat (many)) := Wk_a hW207 (show (-2147483648 : Int) ≤ many by omega) (show many ≤ (2147483647 : Int) by omega)
                  have hF228 := Fr_a (z := many) (k := 18) (n := (n).toNat) hF212 (by decide)
                  obtain ⟨A226, eA226⟩ : ∃ q, q = uA A204 18 (n).toNat (many) := ⟨_, rfl⟩
                  rw [← eA226]
                  rw [← eA226] at hW227 hF228
                  have q229 : A226 18 (n).toNat = many := by rw [eA226]; exact uA_eq
                  have hP230 : Pf nd A A226 := eA226 ▸ Pf_a hP213 (z := n) (by omega) (by omega)
                  refine jx_ld (pc' := 159) (l' := L) (st' := [.int (i32 (n))]) rfl (jl_iloadn gL_2) ?_
                  refine jx_rt (v := some (.int (i32 (n)))) rfl rfl rfl rfl rfl rfl ?_
                  exact ⟨_, _, _, ln1, at1, fk2_206, nd1, sy1, na1, vi1, lf1, rfl, rfl, hW227, hF228, hP230, by omega, ((hF208.1 9 rfl).trans ((hF7.1 9 rfl).trans (ex_ln1))), ((hF208.1 10 rfl).trans ((hF7.1 10 rfl).trans (ex_at1))), (e210), ((hF208.1 31 rfl).trans ((hF7.1 31 rfl).trans (ex_nd1))), ((hF208.1 19 rfl).trans ((hF7.1 19 rfl).trans (ex_sy1))), ((hF208.1 28 rfl).trans ((hF7.1 28 rfl).trans (ex_na1))), ((hF208.1 29 rfl).trans ((hF7.1 29 rfl).trans (ex_vi1))), (congrFun (((congrFun eA226 3).trans (uA_ne (by decide))).trans ((hF208.2 3 rfl).trans (hF7.2 3 rfl))) _).trans (ex_lf1), by omega, by omega, by omega, by omega, by omega, by omega, by omega, by omega, by omega, by omega, by first | exact Or.inl (⟨by omega, by omega⟩) | exact Or.inr ((⟨by omega, by omega, by omega, by omega, by omega, by omega, by omega⟩))⟩
        · have _q := h190
          exact absurd h190 (by omega)
  refine jx_ld (pc' := 1) (l' := [(0, .ref 66), (1, .int (i32 (lv)))]) (st' := [.ref 66]) rfl (jl_aloadn rfl) ?_
  refine jx_ar (pc' := 3) (st' := [.int (i32 (32)), .ref 66]) rfl rfl rfl rfl ?_
  refine jx_ar (pc' := 4) (st' := [.int (i32 (0)), .int (i32 (32)), .ref 66]) rfl rfl rfl rfl ?_
  refine jx_ar (pc' := 5) (st' := [.int (i32 (0)), .int (i32 (0)), .int (i32 (32)), .ref 66]) rfl rfl rfl rfl ?_
  refine jx_ar (pc' := 6) (st' := [.int (i32 (0)), .int (i32 (0)), .int (i32 (0)), .int (i32 (32)), .ref 66]) rfl rfl rfl rfl ?_
  refine jx_ar (pc' := 7) (st' := [.int (i32 (0)), .int (i32 (0)), .int (i32 (0)), .int (i32 (0)), .int (i32 (32)), .ref 66]) rfl rfl rfl rfl ?_
  refine jx_vr (pc' := 10) (as := [.int (i32 (32)), .int (i32 (0)), .int (i32 (0)), .int (i32 (0)), .int (i32 (0))]) (st := []) rfl rfl rfl rfl ⟨rfl, rfl, Nat.le_of_ble_eq_true rfl⟩ rfl rfl (c_node (dd := d) (hd := by omega) (hW := hW) (kind := 32) (a := 0) (b := 0) (c := 0) (e := 0) (nd := nd) (e_nd := show G 31 = nd from (e_nd))  (h_kind := ⟨(by decide), (by decide)⟩) (h_a := ⟨(by decide), (by decide)⟩) (h_b := ⟨(by decide), (by decide)⟩) (h_c := ⟨(by decide), (by decide)⟩) (h_e := ⟨(by decide), (by decide)⟩)  (p_0 := by omega) (p_1 := by omega)) (fun o V' hq => ?_)
  obtain ⟨G231, A232, nd2_233, rfl, rfl, hW234, hF235, hQ236, e237, p238, -⟩ := hq
  have hF240 := Fr_tr hF0 hF235 (Fr_sub (by decide)) (Fr_sub (by decide))
  have hP241 := Pf_tr hP0 hQ236 (by omega)
  have bnd2_233 : (0 : Int) ≤ nd2_233 ∧ nd2_233 ≤ 6999 := e237 ▸ hW234.1 31
  refine .inr ⟨_, rfl, ?_⟩
  refine jx_ld (pc' := 11) (l' := jSto1 [(0, .ref 66), (1, .int (i32 (lv)))] 2 (.int (i32 (nd)))) (st' := []) rfl rfl ?_
  obtain ⟨L242, eL242⟩ : ∃ q, q = jSto1 [(0, .ref 66), (1, .int (i32 (lv)))] 2 (.int (i32 (nd))) := ⟨_, rfl⟩
  rw [← eL242]
  have gL242_0 : jGet L242 0 = some (.ref 66) := eL242 ▸ jg_ne (by decide) (rfl : jGet [(0, .ref 66), (1, .int (i32 (lv)))] 0 = some (.ref 66)) rfl
  have gL242_1 : jGet L242 1 = some (.int (i32 (lv))) := eL242 ▸ jg_ne (by decide) (rfl : jGet [(0, .ref 66), (1, .int (i32 (lv)))] 1 = some (.int (i32 (lv)))) rfl
  have gL242_2 : jGet L242 2 = some (.int (i32 (nd))) := eL242 ▸ jg_eq
  refine jx_ld (pc' := 12) (l' := L242) (st' := [.ref 66]) rfl (jl_aloadn gL242_0) ?_
  refine jx_vr (pc' := 15) (as := []) (st := []) rfl rfl rfl rfl ⟨rfl, rfl, Nat.le_of_ble_eq_true rfl⟩ rfl rfl (c_next (dd := d) (hd := by omega) (hW := hW234)  (ln := ln) (e_ln := show G231 9 = ln from ((hF235.1 9 rfl).trans (e_ln))) (le := le) (e_le := show A232 4 (ln).toNat = le from (congrFun (hF235.2 4 rfl) _).trans (e_le)) (at0 := at0) (e_at0 := show G231 10 = at0 from ((hF235.1 10 rfl).trans (e_at0)))    (p_0 := by omega)) (fun o V' hq => ?_)
  obtain ⟨G243, A244, at2_245, tk2_246, rfl, rfl, hW247, hF248, e249, e250, p251, p252, p253, -⟩ := hq
  have hF255 := Fr_tr hF240 hF248 (Fr_sub (by decide)) (Fr_sub (by decide))
  have hP256 := Pf_f hP241 hF248 (by decide)
  have bat2_245 : (0 : Int) ≤ at2_245 ∧ at2_245 ≤ 3002 := e249 ▸ hW247.1 10
  have ztk2_246 := tz_b tk2_246
  have btk2_246 : (0 : Int) ≤ tk2_246 ∧ tk2_246 ≤ 5 := e250 ▸ hW247.1 11
  refine .inl ⟨rfl, ?_⟩
  refine jx_ld (pc' := 16) (l' := L242) (st' := [.ref 66]) rfl (jl_aloadn gL242_0) ?_
  refine jx_vr (pc' := 19) (as := []) (st := []) rfl rfl rfl rfl ⟨rfl, rfl, Nat.le_of_ble_eq_true rfl⟩ rfl rfl (c_endLine (dd := d) (hd := by omega) (hW := hW247)  (ln := ln) (e_ln := show G243 9 = ln from ((hF248.1 9 rfl).trans ((hF235.1 9 rfl).trans (e_ln)))) (li := li) (e_li := show G243 3 = li from ((hF248.1 3 rfl).trans ((hF235.1 3 rfl).trans (e_li)))) (fk := fk) (e_fk := show G243 16 = fk from ((hF248.1 16 rfl).trans ((hF235.1 16 rfl).trans (e_fk)))) (tk0 := tk2_246) (e_tk0 := show G243 11 = tk2_246 from (e250))    (p_0 := by omega)) (fun o V' hq => ?_)
  obtain ⟨G257, A258, ln2_259, fk2_260, rfl, rfl, hW261, hF262, e263, e264, q265⟩ := hq
  have hF266 := Fr_tr hF255 hF262 (Fr_sub (by decide)) (Fr_sub (by decide))
  have hP267 := Pf_f hP256 hF262 (by decide)
  have bln2_259 : (0 : Int) ≤ ln2_259 ∧ ln2_259 ≤ 3000 := e263 ▸ hW261.1 9
  have bfk2_260 : (0 : Int) ≤ fk2_260 ∧ fk2_260 ≤ 6 := e264 ▸ hW261.1 16
  refine .inl ⟨rfl, ?_⟩
  rcases q265 with ⟨a268, a269, a270, a271, a272⟩ | ⟨a273, a274⟩
  · have _q : True := trivial
    have b275 : (0 : Int) ≤ A 3 (ln2_259).toNat ∧ A 3 (ln2_259).toNat ≤ 3000 := hW.2 3 _
    have lt276 : ln2_259 < li → le < A 3 (ln2_259).toNat := fun hh => LT_nx (LT_ext (((hF262.1 3 rfl).trans ((hF248.1 3 rfl).trans (hF235.1 3 rfl)))) (((hF262.2 3 rfl).trans ((hF248.2 3 rfl).trans (hF235.2 3 rfl)))) (((hF262.2 4 rfl).trans ((hF248.2 4 rfl).trans (hF235.2 4 rfl)))) i_LT) (show G257 3 = li from ((hF262.1 3 rfl).trans ((hF248.1 3 rfl).trans ((hF235.1 3 rfl).trans (e_li))))) (show A258 4 (ln).toNat = le from (congrFun ((hF262.2 4 rfl).trans ((hF248.2 4 rfl).trans (hF235.2 4 rfl))) _).trans (e_le)) (show A258 3 (ln2_259).toNat = A 3 (ln2_259).toNat from (congrFun ((hF262.2 3 rfl).trans ((hF248.2 3 rfl).trans (hF235.2 3 rfl))) _)) (show ln2_259 = ln + 1 by omega) (by omega) hh
    refine jx_ar (pc' := 20) (st' := [.int (i32 (0))]) rfl rfl rfl rfl ?_
    refine jx_ld (pc' := 21) (l' := jSto1 L242 3 (.int (i32 (0)))) (st' := []) rfl rfl ?_
    obtain ⟨L277, eL277⟩ : ∃ q, q = jSto1 L242 3 (.int (i32 (0))) := ⟨_, rfl⟩
    rw [← eL277]
    have gL277_0 : jGet L277 0 = some (.ref 66) := eL277 ▸ jg_ne (by decide) gL242_0 rfl
    have gL277_1 : jGet L277 1 = some (.int (i32 (lv))) := eL277 ▸ jg_ne (by decide) gL242_1 rfl
    have gL277_2 : jGet L277 2 = some (.int (i32 (nd))) := eL277 ▸ jg_ne (by decide) gL242_2 rfl
    have gL277_3 : jGet L277 3 = some (.int (i32 (0))) := eL277 ▸ jg_eq
    refine jx_ar (pc' := 22) (st' := [.int (i32 (0))]) rfl rfl rfl rfl ?_
    refine jx_ld (pc' := 24) (l' := jSto1 L277 4 (.int (i32 (0)))) (st' := []) rfl rfl ?_
    obtain ⟨L278, eL278⟩ : ∃ q, q = jSto1 L277 4 (.int (i32 (0))) := ⟨_, rfl⟩
    rw [← eL278]
    have gL278_0 : jGet L278 0 = some (.ref 66) := eL278 ▸ jg_ne (by decide) gL277_0 rfl
    have gL278_1 : jGet L278 1 = some (.int (i32 (lv))) := eL278 ▸ jg_ne (by decide) gL277_1 rfl
    have gL278_2 : jGet L278 2 = some (.int (i32 (nd))) := eL278 ▸ jg_ne (by decide) gL277_2 rfl
    have gL278_3 : jGet L278 3 = some (.int (i32 (0))) := eL278 ▸ jg_ne (by decide) gL277_3 rfl
    have gL278_4 : jGet L278 4 = some (.int (i32 (0))) := eL278 ▸ jg_eq
    exact at_24 _ L278 G257 A258 (nd) (0) (0) (ln2_259) (at2_245) (fk2_260) (nd2_233) (sy) (na) (vi) (A 3 (ln2_259).toNat) rfl gL278_0 gL278_1 gL278_2 gL278_3 gL278_4 hW261 hF266 hP267 ((e263)) (((hF262.1 10 rfl).trans (e249))) ((e264)) (((hF262.1 31 rfl).trans ((hF248.1 31 rfl).trans (e237)))) (((hF262.1 19 rfl).trans ((hF248.1 19 rfl).trans ((hF235.1 19 rfl).trans (e_sy))))) (((hF262.1 28 rfl).trans ((hF248.1 28 rfl).trans ((hF235.1 28 rfl).trans (e_na))))) (((hF262.1 29 rfl).trans ((hF248.1 29 rfl).trans ((hF235.1 29 rfl).trans (e_vi))))) ((congrFun ((hF262.2 3 rfl).trans ((hF248.2 3 rfl).trans (hF235.2 3 rfl))) _)) (by omega) (by omega) (by omega) (by omega) (by omega) (by omega) (by omega) (by omega) (by omega) (by omega) (by omega) (by omega) (by omega) (by omega) (by omega) (by omega)
  · have _q : True := trivial
    refine jx_ar (pc' := 20) (st' := [.int (i32 (0))]) rfl rfl rfl rfl ?_
    refine jx_ld (pc' := 21) (l' := jSto1 L242 3 (.int (i32 (0)))) (st' := []) rfl rfl ?_
    obtain ⟨L279, eL279⟩ : ∃ q, q = jSto1 L242 3 (.int (i32 (0))) := ⟨_, rfl⟩
    rw [← eL279]
    have gL279_0 : jGet L279 0 = some (.ref 66) := eL279 ▸ jg_ne (by decide) gL242_0 rfl
    have gL279_1 : jGet L279 1 = some (.int (i32 (lv))) := eL279 ▸ jg_ne (by decide) gL242_1 rfl
    have gL279_2 : jGet L279 2 = some (.int (i32 (nd))) := eL279 ▸ jg_ne (by decide) gL242_2 rfl
    have gL279_3 : jGet L279 3 = some (.int (i32 (0))) := eL279 ▸ jg_eq
    refine jx_ar (pc' := 22) (st' := [.int (i32 (0))]) rfl rfl rfl rfl ?_
    refine jx_ld (pc' := 24) (l' := jSto1 L279 4 (.int (i32 (0)))) (st' := []) rfl rfl ?_
    obtain ⟨L280, eL280⟩ : ∃ q, q = jSto1 L279 4 (.int (i32 (0))) := ⟨_, rfl⟩
    rw [← eL280]
    have gL280_0 : jGet L280 0 = some (.ref 66) := eL280 ▸ jg_ne (by decide) gL279_0 rfl
    have gL280_1 : jGet L280 1 = some (.int (i32 (lv))) := eL280 ▸ jg_ne (by decide) gL279_1 rfl
    have gL280_2 : jGet L280 2 = some (.int (i32 (nd))) := eL280 ▸ jg_ne (by decide) gL279_2 rfl
    have gL280_3 : jGet L280 3 = some (.int (i32 (0))) := eL280 ▸ jg_ne (by decide) gL279_3 rfl
    have gL280_4 : jGet L280 4 = some (.int (i32 (0))) := eL280 ▸ jg_eq
    refine jx_ld (pc' := 25) (l' := L280) (st' := [.ref 66]) rfl (jl_aloadn gL280_0) ?_
    refine jx_ld (pc' := 26) (l' := L280) (st' := [.int (i32 (lv)), .ref 66]) rfl (jl_iloadn gL280_1) ?_
    have b281 : (-1 : Int) ≤ A 5 (ln2_259).toNat ∧ A 5 (ln2_259).toNat ≤ 15 := hW.2 5 _
    refine jx_vr (pc' := 29) (as := [.int (i32 (lv))]) (st := []) rfl rfl rfl rfl ⟨rfl, rfl, Nat.le_of_ble_eq_true rfl⟩ rfl rfl (c_isBelow (dd := d) (hd := by omega) (hW := hW261) (lv := lv) (ln := ln2_259) (e_ln := show G257 9 = ln2_259 from (e263)) (li := li) (e_li := show G257 3 = li from ((hF262.1 3 rfl).trans ((hF248.1 3 rfl).trans ((hF235.1 3 rfl).trans (e_li))))) (fk := fk2_260) (e_fk := show G257 16 = fk2_260 from (e264)) (ll := A 5 (ln2_259).toNat) (e_ll := show A258 5 (ln2_259).toNat = A 5 (ln2_259).toNat from (congrFun ((hF262.2 5 rfl).trans ((hF248.2 5 rfl).trans (hF235.2 5 rfl))) _))  (h_lv := ⟨(Int.le_trans (by decide : (-2147483648 : Int) ≤ -2147483648) h_lv.1), (Int.le_trans h_lv.2 (by decide : (2147483647 : Int) ≤ 2147483647))⟩)  (p_0 := by omega)) (fun o V' hq => ?_)
    obtain ⟨G282, A283, r284, fk2_285, rfl, rfl, hW286, hF287, b288, e289, q290⟩ := hq
    have hF291 := Fr_tr hF266 hF287 (Fr_sub (by decide)) (Fr_sub (by decide))
    have hP292 := Pf_f hP267 hF287 (by decide)
    have bfk2_285 : (0 : Int) ≤ fk2_285 ∧ fk2_285 ≤ 6 := e289 ▸ hW286.1 16
    refine .inr ⟨_, rfl, ?_⟩
    rcases q290 with ⟨rfl, a293, a294, a295, a296⟩ | ⟨rfl, a297⟩ | ⟨rfl, a298, a299⟩
    · have _q : True := trivial
      exfalso
      omega
    · have _q : True := trivial
      refine jx_if_eq (pc' := 32) (tg := 130) rfl rfl rfl (by decide) (by decide) (fun h300 => ?_) (fun h300 => ?_)
      · have _q := h300
        refine jx_ld (pc' := 131) (l' := L280) (st' := [.ref 66]) rfl (jl_aloadn gL280_0) ?_
        refine jx_vr (pc' := 134) (as := []) (st := []) rfl rfl rfl rfl ⟨rfl, rfl, Nat.le_of_ble_eq_true rfl⟩ rfl rfl (c_bad (dd := d) (hd := by omega) (hW := hW286)  (fk := fk2_285) (e_fk := show G282 16 = fk2_285 from (e289))    ) (fun o V' hq => ?_)
        obtain ⟨r301, rfl, rfl, b302, q303⟩ := hq
        refine .inr ⟨_, rfl, ?_⟩
        rcases q303 with ⟨rfl, a304⟩ | ⟨rfl, a305⟩
        · have _q : True := trivial
          refine jx_if_ne (pc' := 137) (tg := 150) rfl rfl rfl (by decide) (by decide) (fun h306 => ?_) (fun h306 => ?_)
          · have _q := h306
            refine jx_ld (pc' := 151) (l' := L280) (st' := [.ref 66]) rfl (jl_aloadn gL280_0) ?_
            refine jr_get (pc' := 154) (i := 35) (v := .ref 85) rfl rfl (by decide) rfl rfl ?_
            refine jx_ld (pc' := 155) (l' := L280) (st' := [.int (i32 (nd)), .ref 85]) rfl (jl_iloadn gL280_2) ?_
            refine jx_ld (pc' := 157) (l' := L280) (st' := [.int (i32 (0)), .int (i32 (nd)), .ref 85]) rfl (jl_iload gL280_4) ?_
            refine jr_st (pc' := 158) (i := 18) (m := 7000) (z := nd) (y := 0) rfl (by decide) rfl (by decide) (by omega) (by omega) rfl ?_
            have hW308 : Wk G282 (uA A283 18 (nd).toNat (0)) := Wk_a hW286 (show (-2147483648 : Int) ≤ 0 by omega) (show 0 ≤ (2147483647 : Int) by omega)
            have hF309 := Fr_a (z := 0) (k := 18) (n := (nd).toNat) hF291 (by decide)
            obtain ⟨A307, eA307⟩ : ∃ q, q = uA A283 18 (nd).toNat (0) := ⟨_, rfl⟩
            rw [← eA307]
            rw [← eA307] at hW308 hF309
            have q310 : A307 18 (nd).toNat = 0 := by rw [eA307]; exact uA_eq
            have hP311 : Pf nd A A307 := eA307 ▸ Pf_a hP292 (z := nd) (by omega) (by omega)
            refine jx_ld (pc' := 159) (l' := L280) (st' := [.int (i32 (nd))]) rfl (jl_iloadn gL280_2) ?_
            refine jx_rt (v := some (.int (i32 (nd)))) rfl rfl rfl rfl rfl rfl ?_
            exact ⟨_, _, _, ln2_259, at2_245, fk2_285, nd2_233, sy, na, vi, A 3 (ln2_259).toNat, rfl, rfl, hW308, hF309, hP311, by omega, ((hF287.1 9 rfl).trans (e263)), ((hF287.1 10 rfl).trans ((hF262.1 10 rfl).trans (e249))), (e289), ((hF287.1 31 rfl).trans ((hF262.1 31 rfl).trans ((hF248.1 31 rfl).trans (e237)))), ((hF287.1 19 rfl).trans ((hF262.1 19 rfl).trans ((hF248.1 19 rfl).trans ((hF235.1 19 rfl).trans (e_sy))))), ((hF287.1 28 rfl).trans ((hF262.1 28 rfl).trans ((hF248.1 28 rfl).trans ((hF235.1 28 rfl).trans (e_na))))), ((hF287.1 29 rfl).trans ((hF262.1 29 rfl).trans ((hF248.1 29 rfl).trans ((hF235.1 29 rfl).trans (e_vi))))), (congrFun (((congrFun eA307 3).trans (uA_ne (by decide))).trans ((hF287.2 3 rfl).trans ((hF262.2 3 rfl).trans ((hF248.2 3 rfl).trans (hF235.2 3 rfl))))) _), by omega, by omega, by omega, by omega, by omega, by omega, by omega, by omega, by omega, by omega, by first | exact Or.inl (⟨by omega, by omega⟩) | exact Or.inr ((⟨by omega, by omega, by omega, by omega, by omega, by omega, by omega⟩))⟩
          · have _q := h306
            exact absurd h306 (by omega)
        · have _q : True := trivial
          exfalso
          omega
      · have _q := h300
        exact absurd h300 (by omega)
    · have _q : True := trivial
      exfalso
      omega
set_option maxRecDepth 20000 in
set_option maxHeartbeats 4000000 in
theorem c_readStatement {X : jX} {k : Nat} (hP : RP X k) {dd : Nat} {c0 c1 : jC} {G : Nat → Int} {A : Nat → Nat → Int} {T : jH} {lv : Int} {ln li at0 fk nd sy na vi le op0 tk0 : Int} (hd : 8 * k + 83 ≤ dd) (hW : Wk G A) (e_ln : G 9 = ln) (e_li : G 3 = li) (e_at0 : G 10 = at0) (e_fk : G 16 = fk) (e_nd : G 31 = nd) (e_sy : G 19 = sy) (e_na : G 28 = na) (e_vi : G 29 = vi) (e_le : A 4 (ln).toNat = le) (e_op0 : G 15 = op0) (e_tk0 : G 11 = tk0) (i_LT : LT G A) (h_lv : (-2147483648 : Int) ≤ lv ∧ lv ≤ 2147483647) (p_0 : 0 ≤ lv ∧ lv ≤ 15) (p_1 : 18 - lv ≤ ((k + 1 : Nat) : Int)) (p_2 : fk = 0) (p_3 : ln < li) (p_4 : at0 ≤ le) (p_5 : op0 = 0) (p_6 : nd ≤ 2 * at0 - tz tk0 + 30) (p_7 : sy ≤ na + 2) (p_8 : vi ≤ sy) : wk X dd 295 [.ref 66, .int (i32 lv)] (rV c0 c1 G A T) (fun o V' => ∃ (G' : Nat → Int) (A' : Nat → Nat → Int) (r : Int) (ln2 : Int) (at2 : Int) (fk2 : Int) (nd2 : Int) (sy2 : Int) (na2 : Int) (vi2 : Int) (lf2 : Int), V' = rV c0 c1 G' A' T ∧ o = .inl (some (.int (i32 r))) ∧ Wk G' A' ∧ Fr [9, 10, 11, 12, 13, 14, 15, 16, 17, 18, 19, 28, 29, 31] [6, 7, 8, 9, 10, 11, 12, 14, 15, 16, 17, 18, 19, 20, 21, 22, 23, 24, 28] G A G' A' ∧ Pf nd A A' ∧ ((-2147483648 : Int) ≤ r ∧ r ≤ 2147483647) ∧ G' 9 = ln2 ∧ G' 10 = at2 ∧ G' 16 = fk2 ∧ G' 31 = nd2 ∧ G' 19 = sy2 ∧ G' 28 = na2 ∧ G' 29 = vi2 ∧ A' 3 (ln2).toNat = lf2 ∧ (at0 ≤ at2) ∧ (nd ≤ nd2) ∧ (sy ≤ sy2) ∧ (sy2 ≤ na2 + 2) ∧ (vi ≤ vi2) ∧ (vi2 ≤ vi + 1) ∧ (0 ≤ r) ∧ (r ≤ 6999) ∧ (ln ≤ ln2) ∧ (ln2 ≤ li) ∧ (((1 ≤ fk2) ∧ (nd2 - nd ≤ 2 * at2 - (2 * at0 - tz tk0) + 14)) ∨ ((fk2 = 0) ∧ (vi2 = vi) ∧ (ln < ln2) ∧ (nd2 - nd ≤ 2 * at2 - (2 * at0 - tz tk0)) ∧ (at2 < lf2 ∨ li ≤ ln2) ∧ (nd ≤ r) ∧ (r < nd2)))) := by
  obtain ⟨d, rfl⟩ : ∃ d, dd = d + 1 := ⟨dd - 1, by omega⟩
  refine wk_of (e := jm295) rfl (Nat.le_of_ble_eq_true rfl) ?_
  show wj X d jm295 (0, [(0, .ref 66), (1, .int (i32 (lv)))], [], rV c0 c1 G A T) _
  have hF0 : Fr [9, 10, 11, 12, 13, 14, 15, 16, 17, 18, 19, 28, 29, 31] [6, 7, 8, 9, 10, 11, 12, 14, 15, 16, 17, 18, 19, 20, 21, 22, 23, 24, 28] G A G A := Fr_rf
  have hP0 : Pf nd A A := Pf_rf
  have b_ln : (0 : Int) ≤ ln ∧ ln ≤ 3000 := e_ln ▸ hW.1 9
  have b_li : (0 : Int) ≤ li ∧ li ≤ 3000 := e_li ▸ hW.1 3
  have b_at0 : (0 : Int) ≤ at0 ∧ at0 ≤ 3002 := e_at0 ▸ hW.1 10
  have b_fk : (0 : Int) ≤ fk ∧ fk ≤ 6 := e_fk ▸ hW.1 16
  have b_nd : (0 : Int) ≤ nd ∧ nd ≤ 6999 := e_nd ▸ hW.1 31
  have b_sy : (0 : Int) ≤ sy ∧ sy ≤ 202 := e_sy ▸ hW.1 19
  have b_na : (0 : Int) ≤ na ∧ na ≤ 200 := e_na ▸ hW.1 28
  have b_vi : (0 : Int) ≤ vi ∧ vi ≤ 202 := e_vi ▸ hW.1 29
  have b_le : (0 : Int) ≤ le ∧ le ≤ 3000 := e_le ▸ hW.2 4 _
  have b_op0 : (-2147483648 : Int) ≤ op0 ∧ op0 ≤ 2147483647 := e_op0 ▸ hW.1 15
  have z_tk0 := tz_f tk0
  have b_tk0 : (0 : Int) ≤ tk0 ∧ tk0 ≤ 5 := e_tk0 ▸ hW.1 11
  refine jx_ar (pc' := 1) (st' := [.int (i32 (0))]) rfl rfl rfl rfl ?_
  refine jx_ld (pc' := 2) (l' := jSto1 [(0, .ref 66), (1, .int (i32 (lv)))] 2 (.int (i32 (0)))) (st' := []) rfl rfl ?_
  obtain ⟨L1, eL1⟩ : ∃ q, q = jSto1 [(0, .ref 66), (1, .int (i32 (lv)))] 2 (.int (i32 (0))) := ⟨_, rfl⟩
  rw [← eL1]
  have gL1_0 : jGet L1 0 = some (.ref 66) := eL1 ▸ jg_ne (by decide) (rfl : jGet [(0, .ref 66), (1, .int (i32 (lv)))] 0 = some (.ref 66)) rfl
  have gL1_1 : jGet L1 1 = some (.int (i32 (lv))) := eL1 ▸ jg_ne (by decide) (rfl : jGet [(0, .ref 66), (1, .int (i32 (lv)))] 1 = some (.int (i32 (lv)))) rfl
  have gL1_2 : jGet L1 2 = some (.int (i32 (0))) := eL1 ▸ jg_eq
  refine jx_ld (pc' := 3) (l' := L1) (st' := [.ref 66]) rfl (jl_aloadn gL1_0) ?_
  have z2 := tz_f (tk0)
  refine jr_get (pc' := 6) (i := 11) (v := .int (i32 (tk0))) rfl rfl (by decide) (rFv_eq (by decide) (show G 11 = tk0 from (e_tk0))) rfl ?_
  refine jx_ar (pc' := 7) (st' := [.int (i32 (1)), .int (i32 (tk0))]) rfl rfl rfl rfl ?_
  refine jx_icmp_ne (pc' := 10) (tg := 15) rfl rfl rfl (Int.le_trans (by decide : (-2147483648 : Int) ≤ 0) b_tk0.1) (Int.le_trans b_tk0.2 (by decide : (5 : Int) ≤ 2147483647)) (by decide) (by decide) (fun h3 => ?_) (fun h3 => ?_)
  · have _q := h3
    refine jx_ld (pc' := 16) (l' := L1) (st' := [.ref 66]) rfl (jl_aloadn gL1_0) ?_
    have z4 := tz_f (tk0)
    refine jr_get (pc' := 19) (i := 11) (v := .int (i32 (tk0))) rfl rfl (by decide) (rFv_eq (by decide) (show G 11 = tk0 from (e_tk0))) rfl ?_
    refine jx_ar (pc' := 20) (st' := [.int (i32 (2)), .int (i32 (tk0))]) rfl rfl rfl rfl ?_
    refine jx_icmp_eq (pc' := 23) (tg := 34) rfl rfl rfl (Int.le_trans (by decide : (-2147483648 : Int) ≤ 0) b_tk0.1) (Int.le_trans b_tk0.2 (by decide : (5 : Int) ≤ 2147483647)) (by decide) (by decide) (fun h5 => ?_) (fun h5 => ?_)
    · have _q := h5
      refine jx_ld (pc' := 35) (l' := L1) (st' := [.ref 66]) rfl (jl_aloadn gL1_0) ?_
      have b6 : (-2147483648 : Int) ≤ G 13 ∧ G 13 ≤ 2147483647 := hW.1 13
      refine jr_get (pc' := 38) (i := 13) (v := .int (i32 (G 13))) rfl rfl (by decide) rfl rfl ?_
      refine jx_ld (pc' := 39) (l' := jSto1 L1 3 (.int (i32 (G 13)))) (st' := []) rfl rfl ?_
      obtain ⟨L7, eL7⟩ : ∃ q, q = jSto1 L1 3 (.int (i32 (G 13))) := ⟨_, rfl⟩
      rw [← eL7]
      have gL7_0 : jGet L7 0 = some (.ref 66) := eL7 ▸ jg_ne (by decide) gL1_0 rfl
      have gL7_1 : jGet L7 1 = some (.int (i32 (lv))) := eL7 ▸ jg_ne (by decide) gL1_1 rfl
      have gL7_2 : jGet L7 2 = some (.int (i32 (0))) := eL7 ▸ jg_ne (by decide) gL1_2 rfl
      have gL7_3 : jGet L7 3 = some (.int (i32 (G 13))) := eL7 ▸ jg_eq
      refine jx_ld (pc' := 40) (l' := L7) (st' := [.int (i32 (G 13))]) rfl (jl_iloadn gL7_3) ?_
      rcases (by omega : G 13 = 1 ∨ G 13 = 2 ∨ G 13 = 3 ∨ G 13 = 4 ∨ G 13 = 5 ∨ G 13 = 6 ∨ G 13 = 7 ∨ G 13 = 8 ∨ (G 13 < 1 ∨ 8 < G 13)) with h8 | h8 | h8 | h8 | h8 | h8 | h8 | h8 | h8
      · refine jx_swe (z := 1) (tg := 120) h8 rfl rfl rfl rfl ?_
        refine jx_ld (pc' := 121) (l' := L7) (st' := [.ref 66]) rfl (jl_aloadn gL7_0) ?_
        refine jx_ld (pc' := 122) (l' := L7) (st' := [.int (i32 (lv)), .ref 66]) rfl (jl_iloadn gL7_1) ?_
        refine jx_vr (pc' := 125) (as := [.int (i32 (lv))]) (st := []) rfl rfl rfl rfl ⟨rfl, rfl, Nat.le_of_ble_eq_true rfl⟩ rfl rfl (c_readSeq (dd := d) (hP := hP) (hd := by omega) (hW := hW) (lv := lv) (ln := ln) (e_ln := show G 9 = ln from (e_ln)) (li := li) (e_li := show G 3 = li from (e_li)) (at0 := at0) (e_at0 := show G 10 = at0 from (e_at0)) (fk := fk) (e_fk := show G 16 = fk from (e_fk)) (nd := nd) (e_nd := show G 31 = nd from (e_nd)) (sy := sy) (e_sy := show G 19 = sy from (e_sy)) (na := na) (e_na := show G 28 = na from (e_na)) (vi := vi) (e_vi := show G 29 = vi from (e_vi)) (le := le) (e_le := show A 4 (ln).toNat = le from (e_le)) (op0 := op0) (e_op0 := show G 15 = op0 from (e_op0)) (tk0 := tk0) (e_tk0 := show G 11 = tk0 from (e_tk0)) (i_LT := (LT_ext (rfl) (rfl) (rfl) i_LT)) (h_lv := ⟨(Int.le_trans (by decide : (-2147483648 : Int) ≤ -2147483648) h_lv.1), (Int.le_trans h_lv.2 (by decide : (2147483647 : Int) ≤ 2147483647))⟩)  (p_0 := by omega) (p_1 := by omega) (p_2 := by omega) (p_3 := by omega) (p_4 := by omega) (p_5 := by omega) (p_6 := by omega) (p_7 := by omega) (p_8 := by omega) (p_9 := by omega)) (fun o V' hq => ?_)
        obtain ⟨G9, A10, r11, ln2_12, at2_13, fk2_14, nd2_15, sy2_16, na2_17, vi2_18, lf2_19, rfl, rfl, hW20, hF21, hQ22, b23, e24, e25, e26, e27, e28, e29, e30, e31, p32, p33, p34, p35, p36, p37, p38, p39, p40, p41, q42⟩ := hq
        have hF43 := Fr_tr hF0 hF21 (Fr_sub (by decide)) (Fr_sub (by decide))
        have hP44 := Pf_tr hP0 hQ22 (by omega)
        have bln2_12 : (0 : Int) ≤ ln2_12 ∧ ln2_12 ≤ 3000 := e24 ▸ hW20.1 9
        have bat2_13 : (0 : Int) ≤ at2_13 ∧ at2_13 ≤ 3002 := e25 ▸ hW20.1 10
        have bfk2_14 : (0 : Int) ≤ fk2_14 ∧ fk2_14 ≤ 6 := e26 ▸ hW20.1 16
        have bnd2_15 : (0 : Int) ≤ nd2_15 ∧ nd2_15 ≤ 6999 := e27 ▸ hW20.1 31
        have bsy2_16 : (0 : Int) ≤ sy2_16 ∧ sy2_16 ≤ 202 := e28 ▸ hW20.1 19
        have bna2_17 : (0 : Int) ≤ na2_17 ∧ na2_17 ≤ 200 := e29 ▸ hW20.1 28
        have bvi2_18 : (0 : Int) ≤ vi2_18 ∧ vi2_18 ≤ 202 := e30 ▸ hW20.1 29
        have blf2_19 : (0 : Int) ≤ lf2_19 ∧ lf2_19 ≤ 3000 := e31 ▸ hW20.2 3 _
        refine .inr ⟨_, rfl, ?_⟩
        rcases q42 with ⟨a45, a46⟩ | ⟨a47, a48, a49, a50, a51, a52, a53⟩
        · have _q : True := trivial
          refine jx_rt (v := some (.int (i32 (r11)))) rfl rfl rfl rfl rfl rfl ?_
          exact ⟨_, _, _, ln2_12, at2_13, fk2_14, nd2_15, sy2_16, na2_17, vi2_18, lf2_19, rfl, rfl, hW20, hF43, hP44, by omega, (e24), (e25), (e26), (e27), (e28), (e29), (e30), (e31), by omega, by omega, by omega, by omega, by omega, by omega, by omega, by omega, by omega, by omega, by first | exact Or.inl (⟨by omega, by omega⟩) | exact Or.inr ((⟨by omega, by omega, by omega, by omega, by omega, by omega, by omega⟩))⟩
        · have _q : True := trivial
          refine jx_rt (v := some (.int (i32 (r11)))) rfl rfl rfl rfl rfl rfl ?_
          exact ⟨_, _, _, ln2_12, at2_13, fk2_14, nd2_15, sy2_16, na2_17, vi2_18, lf2_19, rfl, rfl, hW20, hF43, hP44, by omega, (e24), (e25), (e26), (e27), (e28), (e29), (e30), (e31), by omega, by omega, by omega, by omega, by omega, by omega, by omega, by omega, by omega, by omega, by first | exact Or.inl (⟨by omega, by omega⟩) | exact Or.inr ((⟨by omega, by omega, by omega, by omega, by omega, by omega, by omega⟩))⟩
      · refine jx_swe (z := 2) (tg := 186) h8 rfl rfl rfl rfl ?_
        refine jx_ld (pc' := 187) (l' := L7) (st' := [.ref 66]) rfl (jl_aloadn gL7_0) ?_
        refine jx_ld (pc' := 188) (l' := L7) (st' := [.int (i32 (lv)), .ref 66]) rfl (jl_iloadn gL7_1) ?_
        refine jx_vr (pc' := 191) (as := [.int (i32 (lv))]) (st := []) rfl rfl rfl rfl ⟨rfl, rfl, Nat.le_of_ble_eq_true rfl⟩ rfl rfl (c_readPar (dd := d) (hP := hP) (hd := by omega) (hW := hW) (lv := lv) (ln := ln) (e_ln := show G 9 = ln from (e_ln)) (li := li) (e_li := show G 3 = li from (e_li)) (at0 := at0) (e_at0 := show G 10 = at0 from (e_at0)) (fk := fk) (e_fk := show G 16 = fk from (e_fk)) (nd := nd) (e_nd := show G 31 = nd from (e_nd)) (sy := sy) (e_sy := show G 19 = sy from (e_sy)) (na := na) (e_na := show G 28 = na from (e_na)) (vi := vi) (e_vi := show G 29 = vi from (e_vi)) (le := le) (e_le := show A 4 (ln).toNat = le from (e_le)) (op0 := op0) (e_op0 := show G 15 = op0 from (e_op0)) (tk0 := tk0) (e_tk0 := show G 11 = tk0 from (e_tk0)) (i_LT := (LT_ext (rfl) (rfl) (rfl) i_LT)) (h_lv := ⟨(Int.le_trans (by decide : (-2147483648 : Int) ≤ -2147483648) h_lv.1), (Int.le_trans h_lv.2 (by decide : (2147483647 : Int) ≤ 2147483647))⟩)  (p_0 := by omega) (p_1 := by omega) (p_2 := by omega) (p_3 := by omega) (p_4 := by omega) (p_5 := by omega) (p_6 := by omega) (p_7 := by omega) (p_8 := by omega) (p_9 := by omega)) (fun o V' hq => ?_)
        obtain ⟨G54, A55, r56, ln2_57, at2_58, fk2_59, nd2_60, sy2_61, na2_62, vi2_63, lf2_64, rfl, rfl, hW65, hF66, hQ67, b68, e69, e70, e71, e72, e73, e74, e75, e76, p77, p78, p79, p80, p81, p82, p83, p84, p85, p86, q87⟩ := hq
        have hF88 := Fr_tr hF0 hF66 (Fr_sub (by decide)) (Fr_sub (by decide))
        have hP89 := Pf_tr hP0 hQ67 (by omega)
        have bln2_57 : (0 : Int) ≤ ln2_57 ∧ ln2_57 ≤ 3000 := e69 ▸ hW65.1 9
        have bat2_58 : (0 : Int) ≤ at2_58 ∧ at2_58 ≤ 3002 := e70 ▸ hW65.1 10
        have bfk2_59 : (0 : Int) ≤ fk2_59 ∧ fk2_59 ≤ 6 := e71 ▸ hW65.1 16
        have bnd2_60 : (0 : Int) ≤ nd2_60 ∧ nd2_60 ≤ 6999 := e72 ▸ hW65.1 31
        have bsy2_61 : (0 : Int) ≤ sy2_61 ∧ sy2_61 ≤ 202 := e73 ▸ hW65.1 19
        have bna2_62 : (0 : Int) ≤ na2_62 ∧ na2_62 ≤ 200 := e74 ▸ hW65.1 28
        have bvi2_63 : (0 : Int) ≤ vi2_63 ∧ vi2_63 ≤ 202 := e75 ▸ hW65.1 29
        have blf2_64 : (0 : Int) ≤ lf2_64 ∧ lf2_64 ≤ 3000 := e76 ▸ hW65.2 3 _
        refine .inr ⟨_, rfl, ?_⟩
        rcases q87 with ⟨a90, a91⟩ | ⟨a92, a93, a94, a95, a96, a97, a98⟩
        · have _q : True := trivial
          refine jx_rt (v := some (.int (i32 (r56)))) rfl rfl rfl rfl rfl rfl ?_
          exact ⟨_, _, _, ln2_57, at2_58, fk2_59, nd2_60, sy2_61, na2_62, vi2_63, lf2_64, rfl, rfl, hW65, hF88, hP89, by omega, (e69), (e70), (e71), (e72), (e73), (e74), (e75), (e76), by omega, by omega, by omega, by omega, by omega, by omega, by omega, by omega, by omega, by omega, by first | exact Or.inl (⟨by omega, by omega⟩) | exact Or.inr ((⟨by omega, by omega, by omega, by omega, by omega, by omega, by omega⟩))⟩
        · have _q : True := trivial
          refine jx_rt (v := some (.int (i32 (r56)))) rfl rfl rfl rfl rfl rfl ?_
          exact ⟨_, _, _, ln2_57, at2_58, fk2_59, nd2_60, sy2_61, na2_62, vi2_63, lf2_64, rfl, rfl, hW65, hF88, hP89, by omega, (e69), (e70), (e71), (e72), (e73), (e74), (e75), (e76), by omega, by omega, by omega, by omega, by omega, by omega, by omega, by omega, by omega, by omega, by first | exact Or.inl (⟨by omega, by omega⟩) | exact Or.inr ((⟨by omega, by omega, by omega, by omega, by omega, by omega, by omega⟩))⟩
      · refine jx_swe (z := 3) (tg := 126) h8 rfl rfl rfl rfl ?_
        refine jx_ld (pc' := 127) (l' := L7) (st' := [.ref 66]) rfl (jl_aloadn gL7_0) ?_
        refine jx_vr (pc' := 130) (as := []) (st := []) rfl rfl rfl rfl ⟨rfl, rfl, Nat.le_of_ble_eq_true rfl⟩ rfl rfl (c_next (dd := d) (hd := by omega) (hW := hW)  (ln := ln) (e_ln := show G 9 = ln from (e_ln)) (le := le) (e_le := show A 4 (ln).toNat = le from (e_le)) (at0 := at0) (e_at0 := show G 10 = at0 from (e_at0))    (p_0 := by omega)) (fun o V' hq => ?_)
        obtain ⟨G99, A100, at2_101, tk2_102, rfl, rfl, hW103, hF104, e105, e106, p107, p108, p109, -⟩ := hq
        have hF111 := Fr_tr hF0 hF104 (Fr_sub (by decide)) (Fr_sub (by decide))
        have hP112 := Pf_f hP0 hF104 (by decide)
        have bat2_101 : (0 : Int) ≤ at2_101 ∧ at2_101 ≤ 3002 := e105 ▸ hW103.1 10
        have ztk2_102 := tz_b tk2_102
        have btk2_102 : (0 : Int) ≤ tk2_102 ∧ tk2_102 ≤ 5 := e106 ▸ hW103.1 11
        refine .inl ⟨rfl, ?_⟩
        refine jx_ld (pc' := 131) (l' := L7) (st' := [.ref 66]) rfl (jl_aloadn gL7_0) ?_
        refine jx_vr (pc' := 134) (as := []) (st := []) rfl rfl rfl rfl ⟨rfl, rfl, Nat.le_of_ble_eq_true rfl⟩ rfl rfl (c_bad (dd := d) (hd := by omega) (hW := hW103)  (fk := fk) (e_fk := show G99 16 = fk from ((hF104.1 16 rfl).trans (e_fk)))    ) (fun o V' hq => ?_)
        obtain ⟨r113, rfl, rfl, b114, q115⟩ := hq
        refine .inr ⟨_, rfl, ?_⟩
        rcases q115 with ⟨rfl, a116⟩ | ⟨rfl, a117⟩
        · have _q : True := trivial
          exfalso
          omega
        · have _q : True := trivial
          refine jx_if_ne (pc' := 137) (tg := 156) rfl rfl rfl (by decide) (by decide) (fun h118 => ?_) (fun h118 => ?_)
          · have _q := h118
            exact absurd h118 (by omega)
          · have _q := h118
            refine jx_ld (pc' := 138) (l' := L7) (st' := [.ref 66]) rfl (jl_aloadn gL7_0) ?_
            refine jx_ar (pc' := 139) (st' := [.int (i32 (2)), .ref 66]) rfl rfl rfl rfl ?_
            have b119 : (-2147483648 : Int) ≤ G99 13 ∧ G99 13 ≤ 2147483647 := hW103.1 13
            refine jx_vr (pc' := 142) (as := [.int (i32 (2))]) (st := []) rfl rfl rfl rfl ⟨rfl, rfl, Nat.le_of_ble_eq_true rfl⟩ rfl rfl (c_isKey (dd := d) (hd := by omega) (hW := hW103) (k := 2) (tk := tk2_102) (e_tk := show G99 11 = tk2_102 from (e106)) (tn := G99 13) (e_tn := show G99 13 = G99 13 from rfl)  (h_k := ⟨(by decide), (by decide)⟩)  ) (fun o V' hq => ?_)
            obtain ⟨r120, rfl, rfl, b121, q122⟩ := hq
            refine .inr ⟨_, rfl, ?_⟩
            rcases q122 with ⟨rfl, a123, a124, a125⟩ | rfl
            · have _q : True := trivial
              refine jx_if_ne (pc' := 145) (tg := 156) rfl rfl rfl (by decide) (by decide) (fun h126 => ?_) (fun h126 => ?_)
              · have _q := h126
                refine jx_ld (pc' := 157) (l' := L7) (st' := [.ref 66]) rfl (jl_aloadn gL7_0) ?_
                refine jx_ar (pc' := 159) (st' := [.int (i32 (28)), .ref 66]) rfl rfl rfl rfl ?_
                refine jx_ar (pc' := 160) (st' := [.int (i32 (1)), .int (i32 (28)), .ref 66]) rfl rfl rfl rfl ?_
                refine jx_ar (pc' := 161) (st' := [.int (i32 (0)), .int (i32 (1)), .int (i32 (28)), .ref 66]) rfl rfl rfl rfl ?_
                refine jx_ar (pc' := 162) (st' := [.int (i32 (0)), .int (i32 (0)), .int (i32 (1)), .int (i32 (28)), .ref 66]) rfl rfl rfl rfl ?_
                refine jx_ar (pc' := 163) (st' := [.int (i32 (0)), .int (i32 (0)), .int (i32 (0)), .int (i32 (1)), .int (i32 (28)), .ref 66]) rfl rfl rfl rfl ?_
                refine jx_vr (pc' := 166) (as := [.int (i32 (28)), .int (i32 (1)), .int (i32 (0)), .int (i32 (0)), .int (i32 (0))]) (st := []) rfl rfl rfl rfl ⟨rfl, rfl, Nat.le_of_ble_eq_true rfl⟩ rfl rfl (c_node (dd := d) (hd := by omega) (hW := hW103) (kind := 28) (a := 1) (b := 0) (c := 0) (e := 0) (nd := nd) (e_nd := show G99 31 = nd from ((hF104.1 31 rfl).trans (e_nd)))  (h_kind := ⟨(by decide), (by decide)⟩) (h_a := ⟨(by decide), (by decide)⟩) (h_b := ⟨(by decide), (by decide)⟩) (h_c := ⟨(by decide), (by decide)⟩) (h_e := ⟨(by decide), (by decide)⟩)  (p_0 := by omega) (p_1 := by omega)) (fun o V' hq => ?_)
                obtain ⟨G127, A128, nd2_129, rfl, rfl, hW130, hF131, hQ132, e133, p134, -⟩ := hq
                have hF136 := Fr_tr hF111 hF131 (Fr_sub (by decide)) (Fr_sub (by decide))
                have hP137 := Pf_tr hP112 hQ132 (by omega)
                have bnd2_129 : (0 : Int) ≤ nd2_129 ∧ nd2_129 ≤ 6999 := e133 ▸ hW130.1 31
                refine .inr ⟨_, rfl, ?_⟩
                refine jx_ld (pc' := 167) (l' := jSto1 L7 2 (.int (i32 (nd)))) (st' := []) rfl rfl ?_
                obtain ⟨L138, eL138⟩ : ∃ q, q = jSto1 L7 2 (.int (i32 (nd))) := ⟨_, rfl⟩
                rw [← eL138]
                have gL138_0 : jGet L138 0 = some (.ref 66) := eL138 ▸ jg_ne (by decide) gL7_0 rfl
                have gL138_1 : jGet L138 1 = some (.int (i32 (lv))) := eL138 ▸ jg_ne (by decide) gL7_1 rfl
                have gL138_3 : jGet L138 3 = some (.int (i32 (G 13))) := eL138 ▸ jg_ne (by decide) gL7_3 rfl
                have gL138_2 : jGet L138 2 = some (.int (i32 (nd))) := eL138 ▸ jg_eq
                refine jx_ld (pc' := 168) (l' := L138) (st' := [.ref 66]) rfl (jl_aloadn gL138_0) ?_
                refine jx_ar (pc' := 169) (st' := [.int (i32 (1)), .ref 66]) rfl rfl rfl rfl ?_
                refine jx_vr (pc' := 172) (as := [.int (i32 (1))]) (st := []) rfl rfl rfl rfl ⟨rfl, rfl, Nat.le_of_ble_eq_true rfl⟩ rfl rfl (c_need (dd := d) (hd := by omega) (hW := hW130) (g := 1) (ln := ln) (e_ln := show G127 9 = ln from ((hF131.1 9 rfl).trans ((hF104.1 9 rfl).trans (e_ln)))) (le := le) (e_le := show A128 4 (ln).toNat = le from (congrFun ((hF131.2 4 rfl).trans (hF104.2 4 rfl)) _).trans (e_le)) (at0 := at2_101) (e_at0 := show G127 10 = at2_101 from ((hF131.1 10 rfl).trans (e105))) (fk := fk) (e_fk := show G127 16 = fk from ((hF131.1 16 rfl).trans ((hF104.1 16 rfl).trans (e_fk)))) (tk0 := tk2_102) (e_tk0 := show G127 11 = tk2_102 from ((hF131.1 11 rfl).trans (e106)))  (h_g := ⟨(by decide), (by decide)⟩)  (p_0 := by omega)) (fun o V' hq => ?_)
                obtain ⟨G139, A140, at2_141, tk2_142, fk2_143, rfl, rfl, hW144, hF145, e146, e147, e148, p149, p150, q151⟩ := hq
                have hF152 := Fr_tr hF136 hF145 (Fr_sub (by decide)) (Fr_sub (by decide))
                have hP153 := Pf_f hP137 hF145 (by decide)
                have bat2_141 : (0 : Int) ≤ at2_141 ∧ at2_141 ≤ 3002 := e146 ▸ hW144.1 10
                have ztk2_142 := tz_b tk2_142
                have btk2_142 : (0 : Int) ≤ tk2_142 ∧ tk2_142 ≤ 5 := e147 ▸ hW144.1 11
                have bfk2_143 : (0 : Int) ≤ fk2_143 ∧ fk2_143 ≤ 6 := e148 ▸ hW144.1 16
                refine .inl ⟨rfl, ?_⟩
                rcases q151 with ⟨a154, a155, a156, a157⟩ | ⟨a158, a159, a160, a161⟩
                · have _q : True := trivial
                  refine jx_ld (pc' := 173) (l' := L138) (st' := [.ref 66]) rfl (jl_aloadn gL138_0) ?_
                  refine jx_vr (pc' := 176) (as := []) (st := []) rfl rfl rfl rfl ⟨rfl, rfl, Nat.le_of_ble_eq_true rfl⟩ rfl rfl (c_endLine (dd := d) (hd := by omega) (hW := hW144)  (ln := ln) (e_ln := show G139 9 = ln from ((hF145.1 9 rfl).trans ((hF131.1 9 rfl).trans ((hF104.1 9 rfl).trans (e_ln))))) (li := li) (e_li := show G139 3 = li from ((hF145.1 3 rfl).trans ((hF131.1 3 rfl).trans ((hF104.1 3 rfl).trans (e_li))))) (fk := fk2_143) (e_fk := show G139 16 = fk2_143 from (e148)) (tk0 := tk2_142) (e_tk0 := show G139 11 = tk2_142 from (e147))    (p_0 := by omega)) (fun o V' hq => ?_)
                  obtain ⟨G162, A163, ln2_164, fk2_165, rfl, rfl, hW166, hF167, e168, e169, q170⟩ := hq
                  have hF171 := Fr_tr hF152 hF167 (Fr_sub (by decide)) (Fr_sub (by decide))
                  have hP172 := Pf_f hP153 hF167 (by decide)
                  have bln2_164 : (0 : Int) ≤ ln2_164 ∧ ln2_164 ≤ 3000 := e168 ▸ hW166.1 9
                  have bfk2_165 : (0 : Int) ≤ fk2_165 ∧ fk2_165 ≤ 6 := e169 ▸ hW166.1 16
                  refine .inl ⟨rfl, ?_⟩
                  rcases q170 with ⟨a173, a174, a175, a176, a177⟩ | ⟨a178, a179⟩
                  · have _q : True := trivial
                    exfalso
                    omega
                  · have _q : True := trivial
                    refine jx_ld (pc' := 177) (l' := L138) (st' := [.ref 66]) rfl (jl_aloadn gL138_0) ?_
                    refine jx_ld (pc' := 178) (l' := L138) (st' := [.int (i32 (nd)), .ref 66]) rfl (jl_iloadn gL138_2) ?_
                    refine jx_ld (pc' := 179) (l' := L138) (st' := [.int (i32 (lv)), .int (i32 (nd)), .ref 66]) rfl (jl_iloadn gL138_1) ?_
                    refine jx_ar (pc' := 180) (st' := [.int (i32 (2)), .int (i32 (lv)), .int (i32 (nd)), .ref 66]) rfl rfl rfl rfl ?_
                    refine jx_ar (pc' := 181) (st' := [.int (i32 (2)), .int (i32 (2)), .int (i32 (lv)), .int (i32 (nd)), .ref 66]) rfl rfl rfl rfl ?_
                    refine jx_vr (pc' := 184) (as := [.int (i32 (nd)), .int (i32 (lv)), .int (i32 (2)), .int (i32 (2))]) (st := []) rfl rfl rfl rfl ⟨rfl, rfl, Nat.le_of_ble_eq_true rfl⟩ rfl rfl (c_readChildren_f (dd := d) (zz := nd) (hd := by omega) (hW := hW166) (n := nd) (lv := lv) (least := 2) (mo := 2) (fk := fk2_165) (e_fk := show G162 16 = fk2_165 from (e169))  (h_n := ⟨(Int.le_trans (by decide : (-2147483648 : Int) ≤ 0) b_nd.1), (Int.le_trans b_nd.2 (by decide : (6999 : Int) ≤ 2147483647))⟩) (h_lv := ⟨(Int.le_trans (by decide : (-2147483648 : Int) ≤ -2147483648) h_lv.1), (Int.le_trans h_lv.2 (by decide : (2147483647 : Int) ≤ 2147483647))⟩) (h_least := ⟨(by decide), (by decide)⟩) (h_mo := ⟨(by decide), (by decide)⟩)  (p_0 := by omega) (p_1 := by omega) (p_2 := by omega) (p_3 := by omega)) (fun o V' hq => ?_)
                    obtain ⟨G180, A181, fk2_182, rfl, rfl, hW183, hF184, hQ185, e186, p187, -⟩ := hq
                    have hF189 := Fr_tr hF171 hF184 (Fr_sub (by decide)) (Fr_sub (by decide))
                    have hP190 := Pf_tr hP172 hQ185 (by omega)
                    have bfk2_182 : (0 : Int) ≤ fk2_182 ∧ fk2_182 ≤ 6 := e186 ▸ hW183.1 16
                    refine .inl ⟨rfl, ?_⟩
                    refine jx_ld (pc' := 185) (l' := L138) (st' := [.int (i32 (nd))]) rfl (jl_iloadn gL138_2) ?_
                    refine jx_rt (v := some (.int (i32 (nd)))) rfl rfl rfl rfl rfl rfl ?_
                    exact ⟨_, _, _, ln2_164, at2_141, fk2_182, nd2_129, sy, na, vi, A 3 (ln2_164).toNat, rfl, rfl, hW183, hF189, hP190, by omega, ((hF184.1 9 rfl).trans (e168)), ((hF184.1 10 rfl).trans ((hF167.1 10 rfl).trans (e146))), (e186), ((hF184.1 31 rfl).trans ((hF167.1 31 rfl).trans ((hF145.1 31 rfl).trans (e133)))), ((hF184.1 19 rfl).trans ((hF167.1 19 rfl).trans ((hF145.1 19 rfl).trans ((hF131.1 19 rfl).trans ((hF104.1 19 rfl).trans (e_sy)))))), ((hF184.1 28 rfl).trans ((hF167.1 28 rfl).trans ((hF145.1 28 rfl).trans ((hF131.1 28 rfl).trans ((hF104.1 28 rfl).trans (e_na)))))), ((hF184.1 29 rfl).trans ((hF167.1 29 rfl).trans ((hF145.1 29 rfl).trans ((hF131.1 29 rfl).trans ((hF104.1 29 rfl).trans (e_vi)))))), (congrFun ((hF184.2 3 rfl).trans ((hF167.2 3 rfl).trans ((hF145.2 3 rfl).trans ((hF131.2 3 rfl).trans (hF104.2 3 rfl))))) _), by omega, by omega, by omega, by omega, by omega, by omega, by omega, by omega, by omega, by omega, by first | exact Or.inl (⟨by omega, by omega⟩) | exact Or.inr ((⟨by omega, by omega, by omega, by omega, by omega, by omega, by omega⟩))⟩
                · have _q : True := trivial
                  refine jx_ld (pc' := 173) (l' := L138) (st' := [.ref 66]) rfl (jl_aloadn gL138_0) ?_
                  refine jx_vr (pc' := 176) (as := []) (st := []) rfl rfl rfl rfl ⟨rfl, rfl, Nat.le_of_ble_eq_true rfl⟩ rfl rfl (c_endLine (dd := d) (hd := by omega) (hW := hW144)  (ln := ln) (e_ln := show G139 9 = ln from ((hF145.1 9 rfl).trans ((hF131.1 9 rfl).trans ((hF104.1 9 rfl).trans (e_ln))))) (li := li) (e_li := show G139 3 = li from ((hF145.1 3 rfl).trans ((hF131.1 3 rfl).trans ((hF104.1 3 rfl).trans (e_li))))) (fk := fk2_143) (e_fk := show G139 16 = fk2_143 from (e148)) (tk0 := tk2_142) (e_tk0 := show G139 11 = tk2_142 from (e147))    (p_0 := by omega)) (fun o V' hq => ?_)
                  obtain ⟨G191, A192, ln2_193, fk2_194, rfl, rfl, hW195, hF196, e197, e198, q199⟩ := hq
                  have hF200 := Fr_tr hF152 hF196 (Fr_sub (by decide)) (Fr_sub (by decide))
                  have hP201 := Pf_f hP153 hF196 (by decide)
                  have bln2_193 : (0 : Int) ≤ ln2_193 ∧ ln2_193 ≤ 3000 := e197 ▸ hW195.1 9
                  have bfk2_194 : (0 : Int) ≤ fk2_194 ∧ fk2_194 ≤ 6 := e198 ▸ hW195.1 16
                  refine .inl ⟨rfl, ?_⟩
                  rcases q199 with ⟨a202, a203, a204, a205, a206⟩ | ⟨a207, a208⟩
                  · have _q : True := trivial
                    have b209 : (0 : Int) ≤ A 3 (ln2_193).toNat ∧ A 3 (ln2_193).toNat ≤ 3000 := hW.2 3 _
                    have lt210 : ln2_193 < li → le < A 3 (ln2_193).toNat := fun hh => LT_nx (LT_ext (((hF196.1 3 rfl).trans ((hF145.1 3 rfl).trans ((hF131.1 3 rfl).trans (hF104.1 3 rfl))))) (((hF196.2 3 rfl).trans ((hF145.2 3 rfl).trans ((hF131.2 3 rfl).trans (hF104.2 3 rfl))))) (((hF196.2 4 rfl).trans ((hF145.2 4 rfl).trans ((hF131.2 4 rfl).trans (hF104.2 4 rfl))))) i_LT) (show G191 3 = li from ((hF196.1 3 rfl).trans ((hF145.1 3 rfl).trans ((hF131.1 3 rfl).trans ((hF104.1 3 rfl).trans (e_li)))))) (show A192 4 (ln).toNat = le from (congrFun ((hF196.2 4 rfl).trans ((hF145.2 4 rfl).trans ((hF131.2 4 rfl).trans (hF104.2 4 rfl)))) _).trans (e_le)) (show A192 3 (ln2_193).toNat = A 3 (ln2_193).toNat from (congrFun ((hF196.2 3 rfl).trans ((hF145.2 3 rfl).trans ((hF131.2 3 rfl).trans (hF104.2 3 rfl)))) _)) (show ln2_193 = ln + 1 by omega) (by omega) hh
                    refine jx_ld (pc' := 177) (l' := L138) (st' := [.ref 66]) rfl (jl_aloadn gL138_0) ?_
                    refine jx_ld (pc' := 178) (l' := L138) (st' := [.int (i32 (nd)), .ref 66]) rfl (jl_iloadn gL138_2) ?_
                    refine jx_ld (pc' := 179) (l' := L138) (st' := [.int (i32 (lv)), .int (i32 (nd)), .ref 66]) rfl (jl_iloadn gL138_1) ?_
                    refine jx_ar (pc' := 180) (st' := [.int (i32 (2)), .int (i32 (lv)), .int (i32 (nd)), .ref 66]) rfl rfl rfl rfl ?_
                    refine jx_ar (pc' := 181) (st' := [.int (i32 (2)), .int (i32 (2)), .int (i32 (lv)), .int (i32 (nd)), .ref 66]) rfl rfl rfl rfl ?_
                    refine jx_vr (pc' := 184) (as := [.int (i32 (nd)), .int (i32 (lv)), .int (i32 (2)), .int (i32 (2))]) (st := []) rfl rfl rfl rfl ⟨rfl, rfl, Nat.le_of_ble_eq_true rfl⟩ rfl rfl (c_readChildren (dd := d) (hP := hP) (zz := nd) (hd := by omega) (hW := hW195) (n := nd) (lv := lv) (least := 2) (mo := 2) (ln := ln2_193) (e_ln := show G191 9 = ln2_193 from (e197)) (li := li) (e_li := show G191 3 = li from ((hF196.1 3 rfl).trans ((hF145.1 3 rfl).trans ((hF131.1 3 rfl).trans ((hF104.1 3 rfl).trans (e_li)))))) (at0 := at2_141) (e_at0 := show G191 10 = at2_141 from ((hF196.1 10 rfl).trans (e146))) (fk := fk2_194) (e_fk := show G191 16 = fk2_194 from (e198)) (nd := nd2_129) (e_nd := show G191 31 = nd2_129 from ((hF196.1 31 rfl).trans ((hF145.1 31 rfl).trans (e133)))) (sy := sy) (e_sy := show G191 19 = sy from ((hF196.1 19 rfl).trans ((hF145.1 19 rfl).trans ((hF131.1 19 rfl).trans ((hF104.1 19 rfl).trans (e_sy)))))) (na := na) (e_na := show G191 28 = na from ((hF196.1 28 rfl).trans ((hF145.1 28 rfl).trans ((hF131.1 28 rfl).trans ((hF104.1 28 rfl).trans (e_na)))))) (vi := vi) (e_vi := show G191 29 = vi from ((hF196.1 29 rfl).trans ((hF145.1 29 rfl).trans ((hF131.1 29 rfl).trans ((hF104.1 29 rfl).trans (e_vi)))))) (lf := A 3 (ln2_193).toNat) (e_lf := show A192 3 (ln2_193).toNat = A 3 (ln2_193).toNat from (congrFun ((hF196.2 3 rfl).trans ((hF145.2 3 rfl).trans ((hF131.2 3 rfl).trans (hF104.2 3 rfl)))) _)) (i_LT := (LT_ext (((hF196.1 3 rfl).trans ((hF145.1 3 rfl).trans ((hF131.1 3 rfl).trans (hF104.1 3 rfl))))) (((hF196.2 3 rfl).trans ((hF145.2 3 rfl).trans ((hF131.2 3 rfl).trans (hF104.2 3 rfl))))) (((hF196.2 4 rfl).trans ((hF145.2 4 rfl).trans ((hF131.2 4 rfl).trans (hF104.2 4 rfl))))) i_LT)) (h_n := ⟨(Int.le_trans (by decide : (-2147483648 : Int) ≤ 0) b_nd.1), (Int.le_trans b_nd.2 (by decide : (6999 : Int) ≤ 2147483647))⟩) (h_lv := ⟨(Int.le_trans (by decide : (-2147483648 : Int) ≤ -2147483648) h_lv.1), (Int.le_trans h_lv.2 (by decide : (2147483647 : Int) ≤ 2147483647))⟩) (h_least := ⟨(by decide), (by decide)⟩) (h_mo := ⟨(by decide), (by decide)⟩)  (p_0 := by omega) (p_1 := by omega) (p_2 := by omega) (p_3 := by omega) (p_4 := by omega) (p_5 := by omega) (p_6 := by omega) (p_7 := by omega) (p_8 := by omega) (p_9 := by omega) (p_10 := by omega) (p_11 := by omega) (p_12 := by omega)) (fun o V' hq => ?_)
                    obtain ⟨G211, A212, ln2_213, at2_214, fk2_215, nd2_216, sy2_217, na2_218, vi2_219, lf2_220, rfl, rfl, hW221, hF222, hQ223, e224, e225, e226, e227, e228, e229, e230, e231, p232, p233, p234, p235, p236, p237, p238, q239⟩ := hq
                    have hF240 := Fr_tr hF200 hF222 (Fr_sub (by decide)) (Fr_sub (by decide))
                    have hP241 := Pf_tr hP201 hQ223 (by omega)
                    have bln2_213 : (0 : Int) ≤ ln2_213 ∧ ln2_213 ≤ 3000 := e224 ▸ hW221.1 9
                    have bat2_214 : (0 : Int) ≤ at2_214 ∧ at2_214 ≤ 3002 := e225 ▸ hW221.1 10
                    have bfk2_215 : (0 : Int) ≤ fk2_215 ∧ fk2_215 ≤ 6 := e226 ▸ hW221.1 16
                    have bnd2_216 : (0 : Int) ≤ nd2_216 ∧ nd2_216 ≤ 6999 := e227 ▸ hW221.1 31
                    have bsy2_217 : (0 : Int) ≤ sy2_217 ∧ sy2_217 ≤ 202 := e228 ▸ hW221.1 19
                    have bna2_218 : (0 : Int) ≤ na2_218 ∧ na2_218 ≤ 200 := e229 ▸ hW221.1 28
                    have bvi2_219 : (0 : Int) ≤ vi2_219 ∧ vi2_219 ≤ 202 := e230 ▸ hW221.1 29
                    have blf2_220 : (0 : Int) ≤ lf2_220 ∧ lf2_220 ≤ 3000 := e231 ▸ hW221.2 3 _
                    refine .inl ⟨rfl, ?_⟩
                    rcases q239 with ⟨a242, a243⟩ | ⟨a244, a245, a246⟩
                    · have _q : True := trivial
                      refine jx_ld (pc' := 185) (l' := L138) (st' := [.int (i32 (nd))]) rfl (jl_iloadn gL138_2) ?_
                      refine jx_rt (v := some (.int (i32 (nd)))) rfl rfl rfl rfl rfl rfl ?_
                      exact ⟨_, _, _, ln2_213, at2_214, fk2_215, nd2_216, sy2_217, na2_218, vi2_219, lf2_220, rfl, rfl, hW221, hF240, hP241, by omega, (e224), (e225), (e226), (e227), (e228), (e229), (e230), (e231), by omega, by omega, by omega, by omega, by omega, by omega, by omega, by omega, by omega, by omega, by first | exact Or.inl (⟨by omega, by omega⟩) | exact Or.inr ((⟨by omega, by omega, by omega, by omega, by omega, by omega, by omega⟩))⟩
                    · have _q : True := trivial
                      refine jx_ld (pc' := 185) (l' := L138) (st' := [.int (i32 (nd))]) rfl (jl_iloadn gL138_2) ?_
                      refine jx_rt (v := some (.int (i32 (nd)))) rfl rfl rfl rfl rfl rfl ?_
                      exact ⟨_, _, _, ln2_213, at2_214, fk2_215, nd2_216, sy2_217, na2_218, vi2_219, lf2_220, rfl, rfl, hW221, hF240, hP241, by omega, (e224), (e225), (e226), (e227), (e228), (e229), (e230), (e231), by omega, by omega, by omega, by omega, by omega, by omega, by omega, by omega, by omega, by omega, by first | exact Or.inl (⟨by omega, by omega⟩) | exact Or.inr ((⟨by omega, by omega, by omega, by omega, by omega, by omega, by omega⟩))⟩
                  · have _q : True := trivial
                    refine jx_ld (pc' := 177) (l' := L138) (st' := [.ref 66]) rfl (jl_aloadn gL138_0) ?_
                    refine jx_ld (pc' := 178) (l' := L138) (st' := [.int (i32 (nd)), .ref 66]) rfl (jl_iloadn gL138_2) ?_
                    refine jx_ld (pc' := 179) (l' := L138) (st' := [.int (i32 (lv)), .int (i32 (nd)), .ref 66]) rfl (jl_iloadn gL138_1) ?_
                    refine jx_ar (pc' := 180) (st' := [.int (i32 (2)), .int (i32 (lv)), .int (i32 (nd)), .ref 66]) rfl rfl rfl rfl ?_
                    refine jx_ar (pc' := 181) (st' := [.int (i32 (2)), .int (i32 (2)), .int (i32 (lv)), .int (i32 (nd)), .ref 66]) rfl rfl rfl rfl ?_
                    refine jx_vr (pc' := 184) (as := [.int (i32 (nd)), .int (i32 (lv)), .int (i32 (2)), .int (i32 (2))]) (st := []) rfl rfl rfl rfl ⟨rfl, rfl, Nat.le_of_ble_eq_true rfl⟩ rfl rfl (c_readChildren_f (dd := d) (zz := nd) (hd := by omega) (hW := hW195) (n := nd) (lv := lv) (least := 2) (mo := 2) (fk := fk2_194) (e_fk := show G191 16 = fk2_194 from (e198))  (h_n := ⟨(Int.le_trans (by decide : (-2147483648 : Int) ≤ 0) b_nd.1), (Int.le_trans b_nd.2 (by decide : (6999 : Int) ≤ 2147483647))⟩) (h_lv := ⟨(Int.le_trans (by decide : (-2147483648 : Int) ≤ -2147483648) h_lv.1), (Int.le_trans h_lv.2 (by decide : (2147483647 : Int) ≤ 2147483647))⟩) (h_least := ⟨(by decide), (by decide)⟩) (h_mo := ⟨(by decide), (by decide)⟩)  (p_0 := by omega) (p_1 := by omega) (p_2 := by omega) (p_3 := by omega)) (fun o V' hq => ?_)
                    obtain ⟨G247, A248, fk2_249, rfl, rfl, hW250, hF251, hQ252, e253, p254, -⟩ := hq
                    have hF256 := Fr_tr hF200 hF251 (Fr_sub (by decide)) (Fr_sub (by decide))
                    have hP257 := Pf_tr hP201 hQ252 (by omega)
                    have bfk2_249 : (0 : Int) ≤ fk2_249 ∧ fk2_249 ≤ 6 := e253 ▸ hW250.1 16
                    refine .inl ⟨rfl, ?_⟩
                    refine jx_ld (pc' := 185) (l' := L138) (st' := [.int (i32 (nd))]) rfl (jl_iloadn gL138_2) ?_
                    refine jx_rt (v := some (.int (i32 (nd)))) rfl rfl rfl rfl rfl rfl ?_
                    exact ⟨_, _, _, ln2_193, at2_141, fk2_249, nd2_129, sy, na, vi, A 3 (ln2_193).toNat, rfl, rfl, hW250, hF256, hP257, by omega, ((hF251.1 9 rfl).trans (e197)), ((hF251.1 10 rfl).trans ((hF196.1 10 rfl).trans (e146))), (e253), ((hF251.1 31 rfl).trans ((hF196.1 31 rfl).trans ((hF145.1 31 rfl).trans (e133)))), ((hF251.1 19 rfl).trans ((hF196.1 19 rfl).trans ((hF145.1 19 rfl).trans ((hF131.1 19 rfl).trans ((hF104.1 19 rfl).trans (e_sy)))))), ((hF251.1 28 rfl).trans ((hF196.1 28 rfl).trans ((hF145.1 28 rfl).trans ((hF131.1 28 rfl).trans ((hF104.1 28 rfl).trans (e_na)))))), ((hF251.1 29 rfl).trans ((hF196.1 29 rfl).trans ((hF145.1 29 rfl).trans ((hF131.1 29 rfl).trans ((hF104.1 29 rfl).trans (e_vi)))))), (congrFun ((hF251.2 3 rfl).trans ((hF196.2 3 rfl).trans ((hF145.2 3 rfl).trans ((hF131.2 3 rfl).trans (hF104.2 3 rfl))))) _), by omega, by omega, by omega, by omega, by omega, by omega, by omega, by omega, by omega, by omega, by first | exact Or.inl (⟨by omega, by omega⟩) | exact Or.inr ((⟨by omega, by omega, by omega, by omega, by omega, by omega, by omega⟩))⟩
              · have _q := h126
                exact absurd h126 (by omega)
            · have _q : True := trivial
              refine jx_if_ne (pc' := 145) (tg := 156) rfl rfl rfl (by decide) (by decide) (fun h258 => ?_) (fun h258 => ?_)
              · have _q := h258
                exact absurd h258 (by omega)
              · have _q := h258
                refine jx_ld (pc' := 146) (l' := L7) (st' := [.ref 66]) rfl (jl_aloadn gL7_0) ?_
                refine jx_ar (pc' := 147) (st' := [.int (i32 (1)), .ref 66]) rfl rfl rfl rfl ?_
                refine jx_ld (pc' := 148) (l' := L7) (st' := [.ref 66, .int (i32 (1)), .ref 66]) rfl (jl_aloadn gL7_0) ?_
                have b259 : (-3000 : Int) ≤ G99 12 ∧ G99 12 ≤ 3002 := hW103.1 12
                refine jr_get (pc' := 151) (i := 12) (v := .int (i32 (G99 12))) rfl rfl (by decide) rfl rfl ?_
                refine jx_vr (pc' := 154) (as := [.int (i32 (1)), .int (i32 (G99 12))]) (st := []) rfl rfl rfl rfl ⟨rfl, rfl, Nat.le_of_ble_eq_true rfl⟩ rfl rfl (c_fail (dd := d) (hd := by omega) (hW := hW103) (kind := 1) (place := G99 12) (fk := fk) (e_fk := show G99 16 = fk from ((hF104.1 16 rfl).trans (e_fk)))  (h_kind := ⟨(by decide), (by decide)⟩) (h_place := ⟨(Int.le_trans (by decide : (-2147483648 : Int) ≤ -3000) b259.1), (Int.le_trans b259.2 (by decide : (3002 : Int) ≤ 2147483647))⟩)  (p_0 := by omega) (p_1 := by omega)) (fun o V' hq => ?_)
                obtain ⟨G260, A261, fk2_262, rfl, rfl, hW263, hF264, e265, p266, -⟩ := hq
                have hF268 := Fr_tr hF111 hF264 (Fr_sub (by decide)) (Fr_sub (by decide))
                have hP269 := Pf_f hP112 hF264 (by decide)
                have bfk2_262 : (0 : Int) ≤ fk2_262 ∧ fk2_262 ≤ 6 := e265 ▸ hW263.1 16
                refine .inl ⟨rfl, ?_⟩
                refine jx_ar (pc' := 155) (st' := [.int (i32 (0))]) rfl rfl rfl rfl ?_
                refine jx_rt (v := some (.int (i32 (0)))) rfl rfl rfl rfl rfl rfl ?_
                exact ⟨_, _, _, ln, at2_101, fk2_262, nd, sy, na, vi, A 3 (ln).toNat, rfl, rfl, hW263, hF268, hP269, by omega, ((hF264.1 9 rfl).trans ((hF104.1 9 rfl).trans (e_ln))), ((hF264.1 10 rfl).trans (e105)), (e265), ((hF264.1 31 rfl).trans ((hF104.1 31 rfl).trans (e_nd))), ((hF264.1 19 rfl).trans ((hF104.1 19 rfl).trans (e_sy))), ((hF264.1 28 rfl).trans ((hF104.1 28 rfl).trans (e_na))), ((hF264.1 29 rfl).trans ((hF104.1 29 rfl).trans (e_vi))), (congrFun ((hF264.2 3 rfl).trans (hF104.2 3 rfl)) _), by omega, by omega, by omega, by omega, by omega, by omega, by omega, by omega, by omega, by omega, by first | exact Or.inl (⟨by omega, by omega⟩) | exact Or.inr ((⟨by omega, by omega, by omega, by omega, by omega, by omega, by omega⟩))⟩
      · refine jx_swe (z := 4) (tg := 253) h8 rfl rfl rfl rfl ?_
        refine jx_ld (pc' := 254) (l' := L7) (st' := [.ref 66]) rfl (jl_aloadn gL7_0) ?_
        refine jx_ld (pc' := 255) (l' := L7) (st' := [.int (i32 (lv)), .ref 66]) rfl (jl_iloadn gL7_1) ?_
        refine jx_vr (pc' := 258) (as := [.int (i32 (lv))]) (st := []) rfl rfl rfl rfl ⟨rfl, rfl, Nat.le_of_ble_eq_true rfl⟩ rfl rfl (c_readAlt (dd := d) (hP := hP) (hd := by omega) (hW := hW) (lv := lv) (ln := ln) (e_ln := show G 9 = ln from (e_ln)) (li := li) (e_li := show G 3 = li from (e_li)) (at0 := at0) (e_at0 := show G 10 = at0 from (e_at0)) (fk := fk) (e_fk := show G 16 = fk from (e_fk)) (nd := nd) (e_nd := show G 31 = nd from (e_nd)) (sy := sy) (e_sy := show G 19 = sy from (e_sy)) (na := na) (e_na := show G 28 = na from (e_na)) (vi := vi) (e_vi := show G 29 = vi from (e_vi)) (le := le) (e_le := show A 4 (ln).toNat = le from (e_le)) (op0 := op0) (e_op0 := show G 15 = op0 from (e_op0)) (tk0 := tk0) (e_tk0 := show G 11 = tk0 from (e_tk0)) (i_LT := (LT_ext (rfl) (rfl) (rfl) i_LT)) (h_lv := ⟨(Int.le_trans (by decide : (-2147483648 : Int) ≤ -2147483648) h_lv.1), (Int.le_trans h_lv.2 (by decide : (2147483647 : Int) ≤ 2147483647))⟩)  (p_0 := by omega) (p_1 := by omega) (p_2 := by omega) (p_3 := by omega) (p_4 := by omega) (p_5 := by omega) (p_6 := by omega) (p_7 := by omega) (p_8 := by omega) (p_9 := by omega)) (fun o V' hq => ?_)
        obtain ⟨G270, A271, r272, ln2_273, at2_274, fk2_275, nd2_276, sy2_277, na2_278, vi2_279, lf2_280, rfl, rfl, hW281, hF282, hQ283, b284, e285, e286, e287, e288, e289, e290, e291, e292, p293, p294, p295, p296, p297, p298, p299, p300, p301, p302, q303⟩ := hq
        have hF304 := Fr_tr hF0 hF282 (Fr_sub (by decide)) (Fr_sub (by decide))
        have hP305 := Pf_tr hP0 hQ283 (by omega)
        have bln2_273 : (0 : Int) ≤ ln2_273 ∧ ln2_273 ≤ 3000 := e285 ▸ hW281.1 9
        have bat2_274 : (0 : Int) ≤ at2_274 ∧ at2_274 ≤ 3002 := e286 ▸ hW281.1 10
        have bfk2_275 : (0 : Int) ≤ fk2_275 ∧ fk2_275 ≤ 6 := e287 ▸ hW281.1 16
        have bnd2_276 : (0 : Int) ≤ nd2_276 ∧ nd2_276 ≤ 6999 := e288 ▸ hW281.1 31
        have bsy2_277 : (0 : Int) ≤ sy2_277 ∧ sy2_277 ≤ 202 := e289 ▸ hW281.1 19
        have bna2_278 : (0 : Int) ≤ na2_278 ∧ na2_278 ≤ 200 := e290 ▸ hW281.1 28
        have bvi2_279 : (0 : Int) ≤ vi2_279 ∧ vi2_279 ≤ 202 := e291 ▸ hW281.1 29
        have blf2_280 : (0 : Int) ≤ lf2_280 ∧ lf2_280 ≤ 3000 := e292 ▸ hW281.2 3 _
        refine .inr ⟨_, rfl, ?_⟩
        rcases q303 with ⟨a306, a307⟩ | ⟨a308, a309, a310, a311, a312, a313, a314⟩
        · have _q : True := trivial
          refine jx_rt (v := some (.int (i32 (r272)))) rfl rfl rfl rfl rfl rfl ?_
          exact ⟨_, _, _, ln2_273, at2_274, fk2_275, nd2_276, sy2_277, na2_278, vi2_279, lf2_280, rfl, rfl, hW281, hF304, hP305, by omega, (e285), (e286), (e287), (e288), (e289), (e290), (e291), (e292), by omega, by omega, by omega, by omega, by omega, by omega, by omega, by omega, by omega, by omega, by first | exact Or.inl (⟨by omega, by omega⟩) | exact Or.inr ((⟨by omega, by omega, by omega, by omega, by omega, by omega, by omega⟩))⟩
        · have _q : True := trivial
          refine jx_rt (v := some (.int (i32 (r272)))) rfl rfl rfl rfl rfl rfl ?_
          exact ⟨_, _, _, ln2_273, at2_274, fk2_275, nd2_276, sy2_277, na2_278, vi2_279, lf2_280, rfl, rfl, hW281, hF304, hP305, by omega, (e285), (e286), (e287), (e288), (e289), (e290), (e291), (e292), by omega, by omega, by omega, by omega, by omega, by omega, by omega, by omega, by omega, by omega, by first | exact Or.inl (⟨by omega, by omega⟩) | exact Or.inr ((⟨by omega, by omega, by omega, by omega, by omega, by omega, by omega⟩))⟩
      · refine jx_swe (z := 5) (tg := 192) h8 rfl rfl rfl rfl ?_
        refine jx_ld (pc' := 193) (l' := L7) (st' := [.ref 66]) rfl (jl_aloadn gL7_0) ?_
        refine jx_ld (pc' := 194) (l' := L7) (st' := [.int (i32 (lv)), .ref 66]) rfl (jl_iloadn gL7_1) ?_
        refine jx_vr (pc' := 197) (as := [.int (i32 (lv))]) (st := []) rfl rfl rfl rfl ⟨rfl, rfl, Nat.le_of_ble_eq_true rfl⟩ rfl rfl (c_readIf (dd := d) (hP := hP) (hd := by omega) (hW := hW) (lv := lv) (ln := ln) (e_ln := show G 9 = ln from (e_ln)) (li := li) (e_li := show G 3 = li from (e_li)) (at0 := at0) (e_at0 := show G 10 = at0 from (e_at0)) (fk := fk) (e_fk := show G 16 = fk from (e_fk)) (nd := nd) (e_nd := show G 31 = nd from (e_nd)) (sy := sy) (e_sy := show G 19 = sy from (e_sy)) (na := na) (e_na := show G 28 = na from (e_na)) (vi := vi) (e_vi := show G 29 = vi from (e_vi)) (le := le) (e_le := show A 4 (ln).toNat = le from (e_le)) (op0 := op0) (e_op0 := show G 15 = op0 from (e_op0)) (tk0 := tk0) (e_tk0 := show G 11 = tk0 from (e_tk0)) (i_LT := (LT_ext (rfl) (rfl) (rfl) i_LT)) (h_lv := ⟨(Int.le_trans (by decide : (-2147483648 : Int) ≤ -2147483648) h_lv.1), (Int.le_trans h_lv.2 (by decide : (2147483647 : Int) ≤ 2147483647))⟩)  (p_0 := by omega) (p_1 := by omega) (p_2 := by omega) (p_3 := by omega) (p_4 := by omega) (p_5 := by omega) (p_6 := by omega) (p_7 := by omega) (p_8 := by omega) (p_9 := by omega)) (fun o V' hq => ?_)
        obtain ⟨G315, A316, r317, ln2_318, at2_319, fk2_320, nd2_321, sy2_322, na2_323, vi2_324, lf2_325, rfl, rfl, hW326, hF327, hQ328, b329, e330, e331, e332, e333, e334, e335, e336, e337, p338, p339, p340, p341, p342, p343, p344, p345, p346, p347, q348⟩ := hq
        have hF349 := Fr_tr hF0 hF327 (Fr_sub (by decide)) (Fr_sub (by decide))
        have hP350 := Pf_tr hP0 hQ328 (by omega)
        have bln2_318 : (0 : Int) ≤ ln2_318 ∧ ln2_318 ≤ 3000 := e330 ▸ hW326.1 9
        have bat2_319 : (0 : Int) ≤ at2_319 ∧ at2_319 ≤ 3002 := e331 ▸ hW326.1 10
        have bfk2_320 : (0 : Int) ≤ fk2_320 ∧ fk2_320 ≤ 6 := e332 ▸ hW326.1 16
        have bnd2_321 : (0 : Int) ≤ nd2_321 ∧ nd2_321 ≤ 6999 := e333 ▸ hW326.1 31
        have bsy2_322 : (0 : Int) ≤ sy2_322 ∧ sy2_322 ≤ 202 := e334 ▸ hW326.1 19
        have bna2_323 : (0 : Int) ≤ na2_323 ∧ na2_323 ≤ 200 := e335 ▸ hW326.1 28
        have bvi2_324 : (0 : Int) ≤ vi2_324 ∧ vi2_324 ≤ 202 := e336 ▸ hW326.1 29
        have blf2_325 : (0 : Int) ≤ lf2_325 ∧ lf2_325 ≤ 3000 := e337 ▸ hW326.2 3 _
        refine .inr ⟨_, rfl, ?_⟩
        rcases q348 with ⟨a351, a352⟩ | ⟨a353, a354, a355, a356, a357, a358, a359⟩
        · have _q : True := trivial
          refine jx_rt (v := some (.int (i32 (r317)))) rfl rfl rfl rfl rfl rfl ?_
          exact ⟨_, _, _, ln2_318, at2_319, fk2_320, nd2_321, sy2_322, na2_323, vi2_324, lf2_325, rfl, rfl, hW326, hF349, hP350, by omega, (e330), (e331), (e332), (e333), (e334), (e335), (e336), (e337), by omega, by omega, by omega, by omega, by omega, by omega, by omega, by omega, by omega, by omega, by first | exact Or.inl (⟨by omega, by omega⟩) | exact Or.inr ((⟨by omega, by omega, by omega, by omega, by omega, by omega, by omega⟩))⟩
        · have _q : True := trivial
          refine jx_rt (v := some (.int (i32 (r317)))) rfl rfl rfl rfl rfl rfl ?_
          exact ⟨_, _, _, ln2_318, at2_319, fk2_320, nd2_321, sy2_322, na2_323, vi2_324, lf2_325, rfl, rfl, hW326, hF349, hP350, by omega, (e330), (e331), (e332), (e333), (e334), (e335), (e336), (e337), by omega, by omega, by omega, by omega, by omega, by omega, by omega, by omega, by omega, by omega, by first | exact Or.inl (⟨by omega, by omega⟩) | exact Or.inr ((⟨by omega, by omega, by omega, by omega, by omega, by omega, by omega⟩))⟩
      · refine jx_swe (z := 6) (tg := 198) h8 rfl rfl rfl rfl ?_
        refine jx_ld (pc' := 199) (l' := L7) (st' := [.ref 66]) rfl (jl_aloadn gL7_0) ?_
        refine jx_vr (pc' := 202) (as := []) (st := []) rfl rfl rfl rfl ⟨rfl, rfl, Nat.le_of_ble_eq_true rfl⟩ rfl rfl (c_next (dd := d) (hd := by omega) (hW := hW)  (ln := ln) (e_ln := show G 9 = ln from (e_ln)) (le := le) (e_le := show A 4 (ln).toNat = le from (e_le)) (at0 := at0) (e_at0 := show G 10 = at0 from (e_at0))    (p_0 := by omega)) (fun o V' hq => ?_)
        obtain ⟨G360, A361, at2_362, tk2_363, rfl, rfl, hW364, hF365, e366, e367, p368, p369, p370, -⟩ := hq
        have hF372 := Fr_tr hF0 hF365 (Fr_sub (by decide)) (Fr_sub (by decide))
        have hP373 := Pf_f hP0 hF365 (by decide)
        have bat2_362 : (0 : Int) ≤ at2_362 ∧ at2_362 ≤ 3002 := e366 ▸ hW364.1 10
        have ztk2_363 := tz_b tk2_363
        have btk2_363 : (0 : Int) ≤ tk2_363 ∧ tk2_363 ≤ 5 := e367 ▸ hW364.1 11
        refine .inl ⟨rfl, ?_⟩
        refine jx_ld (pc' := 203) (l' := L7) (st' := [.ref 66]) rfl (jl_aloadn gL7_0) ?_
        refine jx_ar (pc' := 205) (st' := [.int (i32 (31)), .ref 66]) rfl rfl rfl rfl ?_
        refine jx_ar (pc' := 206) (st' := [.int (i32 (0)), .int (i32 (31)), .ref 66]) rfl rfl rfl rfl ?_
        refine jx_ar (pc' := 207) (st' := [.int (i32 (0)), .int (i32 (0)), .int (i32 (31)), .ref 66]) rfl rfl rfl rfl ?_
        refine jx_ar (pc' := 208) (st' := [.int (i32 (0)), .int (i32 (0)), .int (i32 (0)), .int (i32 (31)), .ref 66]) rfl rfl rfl rfl ?_
        refine jx_ar (pc' := 209) (st' := [.int (i32 (0)), .int (i32 (0)), .int (i32 (0)), .int (i32 (0)), .int (i32 (31)), .ref 66]) rfl rfl rfl rfl ?_
        refine jx_vr (pc' := 212) (as := [.int (i32 (31)), .int (i32 (0)), .int (i32 (0)), .int (i32 (0)), .int (i32 (0))]) (st := []) rfl rfl rfl rfl ⟨rfl, rfl, Nat.le_of_ble_eq_true rfl⟩ rfl rfl (c_node (dd := d) (hd := by omega) (hW := hW364) (kind := 31) (a := 0) (b := 0) (c := 0) (e := 0) (nd := nd) (e_nd := show G360 31 = nd from ((hF365.1 31 rfl).trans (e_nd)))  (h_kind := ⟨(by decide), (by decide)⟩) (h_a := ⟨(by decide), (by decide)⟩) (h_b := ⟨(by decide), (by decide)⟩) (h_c := ⟨(by decide), (by decide)⟩) (h_e := ⟨(by decide), (by decide)⟩)  (p_0 := by omega) (p_1 := by omega)) (fun o V' hq => ?_)
        obtain ⟨G374, A375, nd2_376, rfl, rfl, hW377, hF378, hQ379, e380, p381, -⟩ := hq
        have hF383 := Fr_tr hF372 hF378 (Fr_sub (by decide)) (Fr_sub (by decide))
        have hP384 := Pf_tr hP373 hQ379 (by omega)
        have bnd2_376 : (0 : Int) ≤ nd2_376 ∧ nd2_376 ≤ 6999 := e380 ▸ hW377.1 31
        refine .inr ⟨_, rfl, ?_⟩
        refine jx_ld (pc' := 213) (l' := jSto1 L7 2 (.int (i32 (nd)))) (st' := []) rfl rfl ?_
        obtain ⟨L385, eL385⟩ : ∃ q, q = jSto1 L7 2 (.int (i32 (nd))) := ⟨_, rfl⟩
        rw [← eL385]
        have gL385_0 : jGet L385 0 = some (.ref 66) := eL385 ▸ jg_ne (by decide) gL7_0 rfl
        have gL385_1 : jGet L385 1 = some (.int (i32 (lv))) := eL385 ▸ jg_ne (by decide) gL7_1 rfl
        have gL385_3 : jGet L385 3 = some (.int (i32 (G 13))) := eL385 ▸ jg_ne (by decide) gL7_3 rfl
        have gL385_2 : jGet L385 2 = some (.int (i32 (nd))) := eL385 ▸ jg_eq
        refine jx_ld (pc' := 214) (l' := L385) (st' := [.ref 66]) rfl (jl_aloadn gL385_0) ?_
        refine jr_get (pc' := 217) (i := 34) (v := .ref 84) rfl rfl (by decide) rfl rfl ?_
        refine jx_ld (pc' := 218) (l' := L385) (st' := [.int (i32 (nd)), .ref 84]) rfl (jl_iloadn gL385_2) ?_
        refine jx_ld (pc' := 219) (l' := L385) (st' := [.ref 66, .int (i32 (nd)), .ref 84]) rfl (jl_aloadn gL385_0) ?_
        refine jx_vr (pc' := 222) (as := []) (st := [.int (i32 (nd)), .ref 84]) rfl rfl rfl rfl ⟨rfl, rfl, Nat.le_of_ble_eq_true rfl⟩ rfl rfl (RE_all X 9 (dd := d) (hd := by omega) (hW := hW377)  (ln := ln) (e_ln := show G374 9 = ln from ((hF378.1 9 rfl).trans ((hF365.1 9 rfl).trans (e_ln)))) (le := le) (e_le := show A375 4 (ln).toNat = le from (congrFun ((hF378.2 4 rfl).trans (hF365.2 4 rfl)) _).trans (e_le)) (at0 := at2_362) (e_at0 := show G374 10 = at2_362 from ((hF378.1 10 rfl).trans (e366))) (fk := fk) (e_fk := show G374 16 = fk from ((hF378.1 16 rfl).trans ((hF365.1 16 rfl).trans (e_fk)))) (op0 := op0) (e_op0 := show G374 15 = op0 from ((hF378.1 15 rfl).trans ((hF365.1 15 rfl).trans (e_op0)))) (nd := nd2_376) (e_nd := show G374 31 = nd2_376 from (e380)) (tk0 := tk2_363) (e_tk0 := show G374 11 = tk2_363 from ((hF378.1 11 rfl).trans (e367)))    (p_0 := by omega) (p_1 := by omega) (p_2 := by omega) (p_3 := by omega) (p_4 := by omega) (p_5 := by omega)) (fun o V' hq => ?_)
        obtain ⟨G386, A387, r388, at2_389, fk2_390, op2_391, nd2_392, tk2_393, rfl, rfl, hW394, hF395, hQ396, b397, e398, e399, e400, e401, e402, p403, p404, p405, p406, p407, p408, q409⟩ := hq
        have hF410 := Fr_tr hF383 hF395 (Fr_sub (by decide)) (Fr_sub (by decide))
        have hP411 := Pf_tr hP384 hQ396 (by omega)
        have bat2_389 : (0 : Int) ≤ at2_389 ∧ at2_389 ≤ 3002 := e398 ▸ hW394.1 10
        have bfk2_390 : (0 : Int) ≤ fk2_390 ∧ fk2_390 ≤ 6 := e399 ▸ hW394.1 16
        have bop2_391 : (-2147483648 : Int) ≤ op2_391 ∧ op2_391 ≤ 2147483647 := e400 ▸ hW394.1 15
        have bnd2_392 : (0 : Int) ≤ nd2_392 ∧ nd2_392 ≤ 6999 := e401 ▸ hW394.1 31
        have ztk2_393 := tz_b tk2_393
        have btk2_393 : (0 : Int) ≤ tk2_393 ∧ tk2_393 ≤ 5 := e402 ▸ hW394.1 11
        refine .inr ⟨_, rfl, ?_⟩
        rcases q409 with ⟨a412, a413, a414, a415, a416, a417⟩ | ⟨a418, a419, a420⟩ | ⟨a421, a422, a423⟩
        · have _q : True := trivial
          exfalso
          omega
        · have _q : True := trivial
          refine jr_st (pc' := 223) (i := 17) (m := 7000) (z := nd) (y := r388) rfl (by decide) rfl (by decide) (by omega) (by omega) rfl ?_
          have hW425 : Wk G386 (uA A387 17 (nd).toNat (r388)) := Wk_a hW394 (show (-2147483648 : Int) ≤ r388 by omega) (show r388 ≤ (2147483647 : Int) by omega)
          have hF426 := Fr_a (z := r388) (k := 17) (n := (nd).toNat) hF410 (by decide)
          obtain ⟨A424, eA424⟩ : ∃ q, q = uA A387 17 (nd).toNat (r388) := ⟨_, rfl⟩
          rw [← eA424]
          rw [← eA424] at hW425 hF426
          have q427 : A424 17 (nd).toNat = r388 := by rw [eA424]; exact uA_eq
          have hP428 : Pf nd A A424 := eA424 ▸ Pf_a hP411 (z := nd) (by omega) (by omega)
          refine jx_ld (pc' := 224) (l' := L385) (st' := [.ref 66]) rfl (jl_aloadn gL385_0) ?_
          refine jx_vr (pc' := 227) (as := []) (st := []) rfl rfl rfl rfl ⟨rfl, rfl, Nat.le_of_ble_eq_true rfl⟩ rfl rfl (c_endLine (dd := d) (hd := by omega) (hW := hW425)  (ln := ln) (e_ln := show G386 9 = ln from ((hF395.1 9 rfl).trans ((hF378.1 9 rfl).trans ((hF365.1 9 rfl).trans (e_ln))))) (li := li) (e_li := show G386 3 = li from ((hF395.1 3 rfl).trans ((hF378.1 3 rfl).trans ((hF365.1 3 rfl).trans (e_li))))) (fk := fk2_390) (e_fk := show G386 16 = fk2_390 from (e399)) (tk0 := tk2_393) (e_tk0 := show G386 11 = tk2_393 from (e402))    (p_0 := by omega)) (fun o V' hq => ?_)
          obtain ⟨G429, A430, ln2_431, fk2_432, rfl, rfl, hW433, hF434, e435, e436, q437⟩ := hq
          have hF438 := Fr_tr hF426 hF434 (Fr_sub (by decide)) (Fr_sub (by decide))
          have hP439 := Pf_f hP428 hF434 (by decide)
          have bln2_431 : (0 : Int) ≤ ln2_431 ∧ ln2_431 ≤ 3000 := e435 ▸ hW433.1 9
          have bfk2_432 : (0 : Int) ≤ fk2_432 ∧ fk2_432 ≤ 6 := e436 ▸ hW433.1 16
          refine .inl ⟨rfl, ?_⟩
          rcases q437 with ⟨a440, a441, a442, a443, a444⟩ | ⟨a445, a446⟩
          · have _q : True := trivial
            exfalso
            omega
          · have _q : True := trivial
            refine jx_ld (pc' := 228) (l' := L385) (st' := [.ref 66]) rfl (jl_aloadn gL385_0) ?_
            refine jr_get (pc' := 231) (i := 38) (v := .ref 88) rfl rfl (by decide) rfl rfl ?_
            refine jx_ld (pc' := 232) (l' := L385) (st' := [.int (i32 (nd)), .ref 88]) rfl (jl_iloadn gL385_2) ?_
            refine jx_ld (pc' := 233) (l' := L385) (st' := [.ref 66, .int (i32 (nd)), .ref 88]) rfl (jl_aloadn gL385_0) ?_
            refine jx_vr (pc' := 236) (as := []) (st := [.int (i32 (nd)), .ref 88]) rfl rfl rfl rfl ⟨rfl, rfl, Nat.le_of_ble_eq_true rfl⟩ rfl rfl (c_bad (dd := d) (hd := by omega) (hW := hW433)  (fk := fk2_432) (e_fk := show G429 16 = fk2_432 from (e436))    ) (fun o V' hq => ?_)
            obtain ⟨r447, rfl, rfl, b448, q449⟩ := hq
            refine .inr ⟨_, rfl, ?_⟩
            rcases q449 with ⟨rfl, a450⟩ | ⟨rfl, a451⟩
            · have _q : True := trivial
              refine jx_if_eq (pc' := 239) (tg := 243) rfl rfl rfl (by decide) (by decide) (fun h452 => ?_) (fun h452 => ?_)
              · have _q := h452
                exact absurd h452 (by omega)
              · have _q := h452
                refine jx_ar (pc' := 240) (st' := [.int (i32 (0)), .int (i32 (nd)), .ref 88]) rfl rfl rfl rfl ?_
                refine jx_go (tg := 250) rfl rfl ?_
                refine jr_st (pc' := 251) (i := 21) (m := 7000) (z := nd) (y := 0) rfl (by decide) rfl (by decide) (by omega) (by omega) rfl ?_
                have hW454 : Wk G429 (uA A430 21 (nd).toNat (0)) := Wk_a hW433 (show (-2147483648 : Int) ≤ 0 by omega) (show 0 ≤ (2147483647 : Int) by omega)
                have hF455 := Fr_a (z := 0) (k := 21) (n := (nd).toNat) hF438 (by decide)
                obtain ⟨A453, eA453⟩ : ∃ q, q = uA A430 21 (nd).toNat (0) := ⟨_, rfl⟩
                rw [← eA453]
                rw [← eA453] at hW454 hF455
                have q456 : A453 21 (nd).toNat = 0 := by rw [eA453]; exact uA_eq
                have hP457 : Pf nd A A453 := eA453 ▸ Pf_a hP439 (z := nd) (by omega) (by omega)
                refine jx_ld (pc' := 252) (l' := L385) (st' := [.int (i32 (nd))]) rfl (jl_iloadn gL385_2) ?_
                refine jx_rt (v := some (.int (i32 (nd)))) rfl rfl rfl rfl rfl rfl ?_
                exact ⟨_, _, _, ln2_431, at2_389, fk2_432, nd2_392, sy, na, vi, A 3 (ln2_431).toNat, rfl, rfl, hW454, hF455, hP457, by omega, (e435), ((hF434.1 10 rfl).trans (e398)), (e436), ((hF434.1 31 rfl).trans (e401)), ((hF434.1 19 rfl).trans ((hF395.1 19 rfl).trans ((hF378.1 19 rfl).trans ((hF365.1 19 rfl).trans (e_sy))))), ((hF434.1 28 rfl).trans ((hF395.1 28 rfl).trans ((hF378.1 28 rfl).trans ((hF365.1 28 rfl).trans (e_na))))), ((hF434.1 29 rfl).trans ((hF395.1 29 rfl).trans ((hF378.1 29 rfl).trans ((hF365.1 29 rfl).trans (e_vi))))), (congrFun (((congrFun eA453 3).trans (uA_ne (by decide))).trans ((hF434.2 3 rfl).trans (((congrFun eA424 3).trans (uA_ne (by decide))).trans ((hF395.2 3 rfl).trans ((hF378.2 3 rfl).trans (hF365.2 3 rfl)))))) _), by omega, by omega, by omega, by omega, by omega, by omega, by omega, by omega, by omega, by omega, by first | exact Or.inl (⟨by omega, by omega⟩) | exact Or.inr ((⟨by omega, by omega, by omega, by omega, by omega, by omega, by omega⟩))⟩
            · have _q : True := trivial
              exfalso
              omega
        · have _q : True := trivial
          refine jr_st (pc' := 223) (i := 17) (m := 7000) (z := nd) (y := r388) rfl (by decide) rfl (by decide) (by omega) (by omega) rfl ?_
          have hW459 : Wk G386 (uA A387 17 (nd).toNat (r388)) := Wk_a hW394 (show (-2147483648 : Int) ≤ r388 by omega) (show r388 ≤ (2147483647 : Int) by omega)
          have hF460 := Fr_a (z := r388) (k := 17) (n := (nd).toNat) hF410 (by decide)
          obtain ⟨A458, eA458⟩ : ∃ q, q = uA A387 17 (nd).toNat (r388) := ⟨_, rfl⟩
          rw [← eA458]
          rw [← eA458] at hW459 hF460
          have q461 : A458 17 (nd).toNat = r388 := by rw [eA458]; exact uA_eq
          have hP462 : Pf nd A A458 := eA458 ▸ Pf_a hP411 (z := nd) (by omega) (by omega)
          refine jx_ld (pc' := 224) (l' := L385) (st' := [.ref 66]) rfl (jl_aloadn gL385_0) ?_
          refine jx_vr (pc' := 227) (as := []) (st := []) rfl rfl rfl rfl ⟨rfl, rfl, Nat.le_of_ble_eq_true rfl⟩ rfl rfl (c_endLine (dd := d) (hd := by omega) (hW := hW459)  (ln := ln) (e_ln := show G386 9 = ln from ((hF395.1 9 rfl).trans ((hF378.1 9 rfl).trans ((hF365.1 9 rfl).trans (e_ln))))) (li := li) (e_li := show G386 3 = li from ((hF395.1 3 rfl).trans ((hF378.1 3 rfl).trans ((hF365.1 3 rfl).trans (e_li))))) (fk := fk2_390) (e_fk := show G386 16 = fk2_390 from (e399)) (tk0 := tk2_393) (e_tk0 := show G386 11 = tk2_393 from (e402))    (p_0 := by omega)) (fun o V' hq => ?_)
          obtain ⟨G463, A464, ln2_465, fk2_466, rfl, rfl, hW467, hF468, e469, e470, q471⟩ := hq
          have hF472 := Fr_tr hF460 hF468 (Fr_sub (by decide)) (Fr_sub (by decide))
          have hP473 := Pf_f hP462 hF468 (by decide)
          have bln2_465 : (0 : Int) ≤ ln2_465 ∧ ln2_465 ≤ 3000 := e469 ▸ hW467.1 9
          have bfk2_466 : (0 : Int) ≤ fk2_466 ∧ fk2_466 ≤ 6 := e470 ▸ hW467.1 16
          refine .inl ⟨rfl, ?_⟩
          rcases q471 with ⟨a474, a475, a476, a477, a478⟩ | ⟨a479, a480⟩
          · have _q : True := trivial
            have b481 : (0 : Int) ≤ A 3 (ln2_465).toNat ∧ A 3 (ln2_465).toNat ≤ 3000 := hW.2 3 _
            have lt482 : ln2_465 < li → le < A 3 (ln2_465).toNat := fun hh => LT_nx (LT_ext (((hF468.1 3 rfl).trans ((hF395.1 3 rfl).trans ((hF378.1 3 rfl).trans (hF365.1 3 rfl))))) (((hF468.2 3 rfl).trans (((congrFun eA458 3).trans (uA_ne (by decide))).trans ((hF395.2 3 rfl).trans ((hF378.2 3 rfl).trans (hF365.2 3 rfl)))))) (((hF468.2 4 rfl).trans (((congrFun eA458 4).trans (uA_ne (by decide))).trans ((hF395.2 4 rfl).trans ((hF378.2 4 rfl).trans (hF365.2 4 rfl)))))) i_LT) (show G463 3 = li from ((hF468.1 3 rfl).trans ((hF395.1 3 rfl).trans ((hF378.1 3 rfl).trans ((hF365.1 3 rfl).trans (e_li)))))) (show A464 4 (ln).toNat = le from (congrFun ((hF468.2 4 rfl).trans (((congrFun eA458 4).trans (uA_ne (by decide))).trans ((hF395.2 4 rfl).trans ((hF378.2 4 rfl).trans (hF365.2 4 rfl))))) _).trans (e_le)) (show A464 3 (ln2_465).toNat = A 3 (ln2_465).toNat from (congrFun ((hF468.2 3 rfl).trans (((congrFun eA458 3).trans (uA_ne (by decide))).trans ((hF395.2 3 rfl).trans ((hF378.2 3 rfl).trans (hF365.2 3 rfl))))) _)) (show ln2_465 = ln + 1 by omega) (by omega) hh
            refine jx_ld (pc' := 228) (l' := L385) (st' := [.ref 66]) rfl (jl_aloadn gL385_0) ?_
            refine jr_get (pc' := 231) (i := 38) (v := .ref 88) rfl rfl (by decide) rfl rfl ?_
            refine jx_ld (pc' := 232) (l' := L385) (st' := [.int (i32 (nd)), .ref 88]) rfl (jl_iloadn gL385_2) ?_
            refine jx_ld (pc' := 233) (l' := L385) (st' := [.ref 66, .int (i32 (nd)), .ref 88]) rfl (jl_aloadn gL385_0) ?_
            refine jx_vr (pc' := 236) (as := []) (st := [.int (i32 (nd)), .ref 88]) rfl rfl rfl rfl ⟨rfl, rfl, Nat.le_of_ble_eq_true rfl⟩ rfl rfl (c_bad (dd := d) (hd := by omega) (hW := hW467)  (fk := fk2_466) (e_fk := show G463 16 = fk2_466 from (e470))    ) (fun o V' hq => ?_)
            obtain ⟨r483, rfl, rfl, b484, q485⟩ := hq
            refine .inr ⟨_, rfl, ?_⟩
            rcases q485 with ⟨rfl, a486⟩ | ⟨rfl, a487⟩
            · have _q : True := trivial
              exfalso
              omega
            · have _q : True := trivial
              refine jx_if_eq (pc' := 239) (tg := 243) rfl rfl rfl (by decide) (by decide) (fun h488 => ?_) (fun h488 => ?_)
              · have _q := h488
                refine jx_ld (pc' := 244) (l' := L385) (st' := [.ref 66, .int (i32 (nd)), .ref 88]) rfl (jl_aloadn gL385_0) ?_
                refine jx_ld (pc' := 245) (l' := L385) (st' := [.int (i32 (lv)), .ref 66, .int (i32 (nd)), .ref 88]) rfl (jl_iloadn gL385_1) ?_
                refine jx_ar (pc' := 246) (st' := [.int (i32 (1)), .int (i32 (lv)), .ref 66, .int (i32 (nd)), .ref 88]) rfl rfl rfl rfl ?_
                refine jx_add (pc' := 247) rfl rfl ?_
                refine jx_vr (pc' := 250) (as := [.int (i32 ((lv + 1)))]) (st := [.int (i32 (nd)), .ref 88]) rfl rfl rfl rfl ⟨rfl, rfl, Nat.le_of_ble_eq_true rfl⟩ rfl rfl (hP (dd := d) (hd := by omega) (hW := hW467) (lv := (lv + 1)) (at0 := at2_389) (ln := ln2_465) (e_ln := show G463 9 = ln2_465 from (e469)) (li := li) (e_li := show G463 3 = li from ((hF468.1 3 rfl).trans ((hF395.1 3 rfl).trans ((hF378.1 3 rfl).trans ((hF365.1 3 rfl).trans (e_li)))))) (fk := fk2_466) (e_fk := show G463 16 = fk2_466 from (e470)) (nd := nd2_392) (e_nd := show G463 31 = nd2_392 from ((hF468.1 31 rfl).trans (e401))) (sy := sy) (e_sy := show G463 19 = sy from ((hF468.1 19 rfl).trans ((hF395.1 19 rfl).trans ((hF378.1 19 rfl).trans ((hF365.1 19 rfl).trans (e_sy)))))) (na := na) (e_na := show G463 28 = na from ((hF468.1 28 rfl).trans ((hF395.1 28 rfl).trans ((hF378.1 28 rfl).trans ((hF365.1 28 rfl).trans (e_na)))))) (vi := vi) (e_vi := show G463 29 = vi from ((hF468.1 29 rfl).trans ((hF395.1 29 rfl).trans ((hF378.1 29 rfl).trans ((hF365.1 29 rfl).trans (e_vi)))))) (lf := A 3 (ln2_465).toNat) (e_lf := show A464 3 (ln2_465).toNat = A 3 (ln2_465).toNat from (congrFun ((hF468.2 3 rfl).trans (((congrFun eA458 3).trans (uA_ne (by decide))).trans ((hF395.2 3 rfl).trans ((hF378.2 3 rfl).trans (hF365.2 3 rfl))))) _)) (ac := at2_389) (e_ac := show G463 10 = at2_389 from ((hF468.1 10 rfl).trans (e398))) (i_LT := (LT_ext (((hF468.1 3 rfl).trans ((hF395.1 3 rfl).trans ((hF378.1 3 rfl).trans (hF365.1 3 rfl))))) (((hF468.2 3 rfl).trans (((congrFun eA458 3).trans (uA_ne (by decide))).trans ((hF395.2 3 rfl).trans ((hF378.2 3 rfl).trans (hF365.2 3 rfl)))))) (((hF468.2 4 rfl).trans (((congrFun eA458 4).trans (uA_ne (by decide))).trans ((hF395.2 4 rfl).trans ((hF378.2 4 rfl).trans (hF365.2 4 rfl)))))) i_LT)) (h_lv := ⟨(by omega), (by omega)⟩)  (p_0 := by omega) (p_1 := by omega) (p_2 := by omega) (p_3 := by omega) (p_4 := by omega) (p_5 := by omega) (p_6 := by omega) (p_7 := by omega) (p_8 := by omega) (p_9 := by omega)) (fun o V' hq => ?_)
                obtain ⟨G489, A490, r491, ln2_492, at2_493, fk2_494, nd2_495, sy2_496, na2_497, vi2_498, lf2_499, rfl, rfl, hW500, hF501, hQ502, b503, e504, e505, e506, e507, e508, e509, e510, e511, p512, p513, p514, p515, p516, p517, p518, p519, p520, q521⟩ := hq
                have hF522 := Fr_tr hF472 hF501 (Fr_sub (by decide)) (Fr_sub (by decide))
                have k523 : A490 17 (nd).toNat = r388 := (hQ502 17 _ rfl (by omega)).trans (show A464 17 (nd).toNat = r388 from (congrFun (hF468.2 17 rfl) _).trans (q461))
                have hP524 := Pf_tr hP473 hQ502 (by omega)
                have bln2_492 : (0 : Int) ≤ ln2_492 ∧ ln2_492 ≤ 3000 := e504 ▸ hW500.1 9
                have bat2_493 : (0 : Int) ≤ at2_493 ∧ at2_493 ≤ 3002 := e505 ▸ hW500.1 10
                have bfk2_494 : (0 : Int) ≤ fk2_494 ∧ fk2_494 ≤ 6 := e506 ▸ hW500.1 16
                have bnd2_495 : (0 : Int) ≤ nd2_495 ∧ nd2_495 ≤ 6999 := e507 ▸ hW500.1 31
                have bsy2_496 : (0 : Int) ≤ sy2_496 ∧ sy2_496 ≤ 202 := e508 ▸ hW500.1 19
                have bna2_497 : (0 : Int) ≤ na2_497 ∧ na2_497 ≤ 200 := e509 ▸ hW500.1 28
                have bvi2_498 : (0 : Int) ≤ vi2_498 ∧ vi2_498 ≤ 202 := e510 ▸ hW500.1 29
                have blf2_499 : (0 : Int) ≤ lf2_499 ∧ lf2_499 ≤ 3000 := e511 ▸ hW500.2 3 _
                refine .inr ⟨_, rfl, ?_⟩
                rcases q521 with ⟨a525, a526⟩ | ⟨a527, a528, a529, a530, a531, a532⟩
                · have _q : True := trivial
                  refine jr_st (pc' := 251) (i := 21) (m := 7000) (z := nd) (y := r491) rfl (by decide) rfl (by decide) (by omega) (by omega) rfl ?_
                  have hW534 : Wk G489 (uA A490 21 (nd).toNat (r491)) := Wk_a hW500 (show (-2147483648 : Int) ≤ r491 by omega) (show r491 ≤ (2147483647 : Int) by omega)
                  have hF535 := Fr_a (z := r491) (k := 21) (n := (nd).toNat) hF522 (by decide)
                  obtain ⟨A533, eA533⟩ : ∃ q, q = uA A490 21 (nd).toNat (r491) := ⟨_, rfl⟩
                  rw [← eA533]
                  rw [← eA533] at hW534 hF535
                  have q536 : A533 21 (nd).toNat = r491 := by rw [eA533]; exact uA_eq
                  have hP537 : Pf nd A A533 := eA533 ▸ Pf_a hP524 (z := nd) (by omega) (by omega)
                  refine jx_ld (pc' := 252) (l' := L385) (st' := [.int (i32 (nd))]) rfl (jl_iloadn gL385_2) ?_
                  refine jx_rt (v := some (.int (i32 (nd)))) rfl rfl rfl rfl rfl rfl ?_
                  exact ⟨_, _, _, ln2_492, at2_493, fk2_494, nd2_495, sy2_496, na2_497, vi2_498, lf2_499, rfl, rfl, hW534, hF535, hP537, by omega, (e504), (e505), (e506), (e507), (e508), (e509), (e510), (congrFun ((congrFun eA533 3).trans (uA_ne (by decide))) _).trans (e511), by omega, by omega, by omega, by omega, by omega, by omega, by omega, by omega, by omega, by omega, by first | exact Or.inl (⟨by omega, by omega⟩) | exact Or.inr ((⟨by omega, by omega, by omega, by omega, by omega, by omega, by omega⟩))⟩
                · have _q : True := trivial
                  refine jr_st (pc' := 251) (i := 21) (m := 7000) (z := nd) (y := r491) rfl (by decide) rfl (by decide) (by omega) (by omega) rfl ?_
                  have hW539 : Wk G489 (uA A490 21 (nd).toNat (r491)) := Wk_a hW500 (show (-2147483648 : Int) ≤ r491 by omega) (show r491 ≤ (2147483647 : Int) by omega)
                  have hF540 := Fr_a (z := r491) (k := 21) (n := (nd).toNat) hF522 (by decide)
                  obtain ⟨A538, eA538⟩ : ∃ q, q = uA A490 21 (nd).toNat (r491) := ⟨_, rfl⟩
                  rw [← eA538]
                  rw [← eA538] at hW539 hF540
                  have q541 : A538 21 (nd).toNat = r491 := by rw [eA538]; exact uA_eq
                  have hP542 : Pf nd A A538 := eA538 ▸ Pf_a hP524 (z := nd) (by omega) (by omega)
                  refine jx_ld (pc' := 252) (l' := L385) (st' := [.int (i32 (nd))]) rfl (jl_iloadn gL385_2) ?_
                  refine jx_rt (v := some (.int (i32 (nd)))) rfl rfl rfl rfl rfl rfl ?_
                  exact ⟨_, _, _, ln2_492, at2_493, fk2_494, nd2_495, sy2_496, na2_497, vi2_498, lf2_499, rfl, rfl, hW539, hF540, hP542, by omega, (e504), (e505), (e506), (e507), (e508), (e509), (e510), (congrFun ((congrFun eA538 3).trans (uA_ne (by decide))) _).trans (e511), by omega, by omega, by omega, by omega, by omega, by omega, by omega, by omega, by omega, by omega, by first | exact Or.inl (⟨by omega, by omega⟩) | exact Or.inr ((⟨by omega, by omega, by omega, by omega, by omega, by omega, by omega⟩))⟩
              · have _q := h488
                exact absurd h488 (by omega)
          · have _q : True := trivial
            refine jx_ld (pc' := 228) (l' := L385) (st' := [.ref 66]) rfl (jl_aloadn gL385_0) ?_
            refine jr_get (pc' := 231) (i := 38) (v := .ref 88) rfl rfl (by decide) rfl rfl ?_
            refine jx_ld (pc' := 232) (l' := L385) (st' := [.int (i32 (nd)), .ref 88]) rfl (jl_iloadn gL385_2) ?_
            refine jx_ld (pc' := 233) (l' := L385) (st' := [.ref 66, .int (i32 (nd)), .ref 88]) rfl (jl_aloadn gL385_0) ?_
            refine jx_vr (pc' := 236) (as := []) (st := [.int (i32 (nd)), .ref 88]) rfl rfl rfl rfl ⟨rfl, rfl, Nat.le_of_ble_eq_true rfl⟩ rfl rfl (c_bad (dd := d) (hd := by omega) (hW := hW467)  (fk := fk2_466) (e_fk := show G463 16 = fk2_466 from (e470))    ) (fun o V' hq => ?_)
            obtain ⟨r543, rfl, rfl, b544, q545⟩ := hq
            refine .inr ⟨_, rfl, ?_⟩
            rcases q545 with ⟨rfl, a546⟩ | ⟨rfl, a547⟩
            · have _q : True := trivial
              refine jx_if_eq (pc' := 239) (tg := 243) rfl rfl rfl (by decide) (by decide) (fun h548 => ?_) (fun h548 => ?_)
              · have _q := h548
                exact absurd h548 (by omega)
              · have _q := h548
                refine jx_ar (pc' := 240) (st' := [.int (i32 (0)), .int (i32 (nd)), .ref 88]) rfl rfl rfl rfl ?_
                refine jx_go (tg := 250) rfl rfl ?_
                refine jr_st (pc' := 251) (i := 21) (m := 7000) (z := nd) (y := 0) rfl (by decide) rfl (by decide) (by omega) (by omega) rfl ?_
                have hW550 : Wk G463 (uA A464 21 (nd).toNat (0)) := Wk_a hW467 (show (-2147483648 : Int) ≤ 0 by omega) (show 0 ≤ (2147483647 : Int) by omega)
                have hF551 := Fr_a (z := 0) (k := 21) (n := (nd).toNat) hF472 (by decide)
                obtain ⟨A549, eA549⟩ : ∃ q, q = uA A464 21 (nd).toNat (0) := ⟨_, rfl⟩
                rw [← eA549]
                rw [← eA549] at hW550 hF551
                have q552 : A549 21 (nd).toNat = 0 := by rw [eA549]; exact uA_eq
                have hP553 : Pf nd A A549 := eA549 ▸ Pf_a hP473 (z := nd) (by omega) (by omega)
                refine jx_ld (pc' := 252) (l' := L385) (st' := [.int (i32 (nd))]) rfl (jl_iloadn gL385_2) ?_
                refine jx_rt (v := some (.int (i32 (nd)))) rfl rfl rfl rfl rfl rfl ?_
                exact ⟨_, _, _, ln2_465, at2_389, fk2_466, nd2_392, sy, na, vi, A 3 (ln2_465).toNat, rfl, rfl, hW550, hF551, hP553, by omega, (e469), ((hF468.1 10 rfl).trans (e398)), (e470), ((hF468.1 31 rfl).trans (e401)), ((hF468.1 19 rfl).trans ((hF395.1 19 rfl).trans ((hF378.1 19 rfl).trans ((hF365.1 19 rfl).trans (e_sy))))), ((hF468.1 28 rfl).trans ((hF395.1 28 rfl).trans ((hF378.1 28 rfl).trans ((hF365.1 28 rfl).trans (e_na))))), ((hF468.1 29 rfl).trans ((hF395.1 29 rfl).trans ((hF378.1 29 rfl).trans ((hF365.1 29 rfl).trans (e_vi))))), (congrFun (((congrFun eA549 3).trans (uA_ne (by decide))).trans ((hF468.2 3 rfl).trans (((congrFun eA458 3).trans (uA_ne (by decide))).trans ((hF395.2 3 rfl).trans ((hF378.2 3 rfl).trans (hF365.2 3 rfl)))))) _), by omega, by omega, by omega, by omega, by omega, by omega, by omega, by omega, by omega, by omega, by first | exact Or.inl (⟨by omega, by omega⟩) | exact Or.inr ((⟨by omega, by omega, by omega, by omega, by omega, by omega, by omega⟩))⟩
            · have _q : True := trivial
              exfalso
              omega
      · refine jx_swe (z := 7) (tg := 88) h8 rfl rfl rfl rfl ?_
        refine jx_ld (pc' := 89) (l' := L7) (st' := [.ref 66]) rfl (jl_aloadn gL7_0) ?_
        refine jx_ld (pc' := 90) (l' := L7) (st' := [.int (i32 (G 13)), .ref 66]) rfl (jl_iloadn gL7_3) ?_
        refine jx_ar (pc' := 92) (st' := [.int (i32 (7)), .int (i32 (G 13)), .ref 66]) rfl rfl rfl rfl ?_
        refine jx_icmp_ne (pc' := 95) (tg := 100) rfl rfl rfl (Int.le_trans (by decide : (-2147483648 : Int) ≤ -2147483648) b6.1) (Int.le_trans b6.2 (by decide : (2147483647 : Int) ≤ 2147483647)) (by decide) (by decide) (fun h554 => ?_) (fun h554 => ?_)
        · have _q := h554
          refine jx_ar (pc' := 102) (st' := [.int (i32 (21)), .ref 66]) rfl rfl rfl rfl ?_
          refine jx_ar (pc' := 103) (st' := [.int (i32 (0)), .int (i32 (21)), .ref 66]) rfl rfl rfl rfl ?_
          refine jx_ar (pc' := 104) (st' := [.int (i32 (0)), .int (i32 (0)), .int (i32 (21)), .ref 66]) rfl rfl rfl rfl ?_
          refine jx_ar (pc' := 105) (st' := [.int (i32 (0)), .int (i32 (0)), .int (i32 (0)), .int (i32 (21)), .ref 66]) rfl rfl rfl rfl ?_
          refine jx_ar (pc' := 106) (st' := [.int (i32 (0)), .int (i32 (0)), .int (i32 (0)), .int (i32 (0)), .int (i32 (21)), .ref 66]) rfl rfl rfl rfl ?_
          refine jx_vr (pc' := 109) (as := [.int (i32 (21)), .int (i32 (0)), .int (i32 (0)), .int (i32 (0)), .int (i32 (0))]) (st := []) rfl rfl rfl rfl ⟨rfl, rfl, Nat.le_of_ble_eq_true rfl⟩ rfl rfl (c_node (dd := d) (hd := by omega) (hW := hW) (kind := 21) (a := 0) (b := 0) (c := 0) (e := 0) (nd := nd) (e_nd := show G 31 = nd from (e_nd))  (h_kind := ⟨(by decide), (by decide)⟩) (h_a := ⟨(by decide), (by decide)⟩) (h_b := ⟨(by decide), (by decide)⟩) (h_c := ⟨(by decide), (by decide)⟩) (h_e := ⟨(by decide), (by decide)⟩)  (p_0 := by omega) (p_1 := by omega)) (fun o V' hq => ?_)
          obtain ⟨G555, A556, nd2_557, rfl, rfl, hW558, hF559, hQ560, e561, p562, -⟩ := hq
          have hF564 := Fr_tr hF0 hF559 (Fr_sub (by decide)) (Fr_sub (by decide))
          have hP565 := Pf_tr hP0 hQ560 (by omega)
          have bnd2_557 : (0 : Int) ≤ nd2_557 ∧ nd2_557 ≤ 6999 := e561 ▸ hW558.1 31
          refine .inr ⟨_, rfl, ?_⟩
          refine jx_ld (pc' := 110) (l' := jSto1 L7 2 (.int (i32 (nd)))) (st' := []) rfl rfl ?_
          obtain ⟨L566, eL566⟩ : ∃ q, q = jSto1 L7 2 (.int (i32 (nd))) := ⟨_, rfl⟩
          rw [← eL566]
          have gL566_0 : jGet L566 0 = some (.ref 66) := eL566 ▸ jg_ne (by decide) gL7_0 rfl
          have gL566_1 : jGet L566 1 = some (.int (i32 (lv))) := eL566 ▸ jg_ne (by decide) gL7_1 rfl
          have gL566_3 : jGet L566 3 = some (.int (i32 (G 13))) := eL566 ▸ jg_ne (by decide) gL7_3 rfl
          have gL566_2 : jGet L566 2 = some (.int (i32 (nd))) := eL566 ▸ jg_eq
          refine jx_ld (pc' := 111) (l' := L566) (st' := [.ref 66]) rfl (jl_aloadn gL566_0) ?_
          refine jx_vr (pc' := 114) (as := []) (st := []) rfl rfl rfl rfl ⟨rfl, rfl, Nat.le_of_ble_eq_true rfl⟩ rfl rfl (c_next (dd := d) (hd := by omega) (hW := hW558)  (ln := ln) (e_ln := show G555 9 = ln from ((hF559.1 9 rfl).trans (e_ln))) (le := le) (e_le := show A556 4 (ln).toNat = le from (congrFun (hF559.2 4 rfl) _).trans (e_le)) (at0 := at0) (e_at0 := show G555 10 = at0 from ((hF559.1 10 rfl).trans (e_at0)))    (p_0 := by omega)) (fun o V' hq => ?_)
          obtain ⟨G567, A568, at2_569, tk2_570, rfl, rfl, hW571, hF572, e573, e574, p575, p576, p577, -⟩ := hq
          have hF579 := Fr_tr hF564 hF572 (Fr_sub (by decide)) (Fr_sub (by decide))
          have hP580 := Pf_f hP565 hF572 (by decide)
          have bat2_569 : (0 : Int) ≤ at2_569 ∧ at2_569 ≤ 3002 := e573 ▸ hW571.1 10
          have ztk2_570 := tz_b tk2_570
          have btk2_570 : (0 : Int) ≤ tk2_570 ∧ tk2_570 ≤ 5 := e574 ▸ hW571.1 11
          refine .inl ⟨rfl, ?_⟩
          refine jx_ld (pc' := 115) (l' := L566) (st' := [.ref 66]) rfl (jl_aloadn gL566_0) ?_
          refine jx_vr (pc' := 118) (as := []) (st := []) rfl rfl rfl rfl ⟨rfl, rfl, Nat.le_of_ble_eq_true rfl⟩ rfl rfl (c_endLine (dd := d) (hd := by omega) (hW := hW571)  (ln := ln) (e_ln := show G567 9 = ln from ((hF572.1 9 rfl).trans ((hF559.1 9 rfl).trans (e_ln)))) (li := li) (e_li := show G567 3 = li from ((hF572.1 3 rfl).trans ((hF559.1 3 rfl).trans (e_li)))) (fk := fk) (e_fk := show G567 16 = fk from ((hF572.1 16 rfl).trans ((hF559.1 16 rfl).trans (e_fk)))) (tk0 := tk2_570) (e_tk0 := show G567 11 = tk2_570 from (e574))    (p_0 := by omega)) (fun o V' hq => ?_)
          obtain ⟨G581, A582, ln2_583, fk2_584, rfl, rfl, hW585, hF586, e587, e588, q589⟩ := hq
          have hF590 := Fr_tr hF579 hF586 (Fr_sub (by decide)) (Fr_sub (by decide))
          have hP591 := Pf_f hP580 hF586 (by decide)
          have bln2_583 : (0 : Int) ≤ ln2_583 ∧ ln2_583 ≤ 3000 := e587 ▸ hW585.1 9
          have bfk2_584 : (0 : Int) ≤ fk2_584 ∧ fk2_584 ≤ 6 := e588 ▸ hW585.1 16
          refine .inl ⟨rfl, ?_⟩
          rcases q589 with ⟨a592, a593, a594, a595, a596⟩ | ⟨a597, a598⟩
          · have _q : True := trivial
            have b599 : (0 : Int) ≤ A 3 (ln2_583).toNat ∧ A 3 (ln2_583).toNat ≤ 3000 := hW.2 3 _
            have lt600 : ln2_583 < li → le < A 3 (ln2_583).toNat := fun hh => LT_nx (LT_ext (((hF586.1 3 rfl).trans ((hF572.1 3 rfl).trans (hF559.1 3 rfl)))) (((hF586.2 3 rfl).trans ((hF572.2 3 rfl).trans (hF559.2 3 rfl)))) (((hF586.2 4 rfl).trans ((hF572.2 4 rfl).trans (hF559.2 4 rfl)))) i_LT) (show G581 3 = li from ((hF586.1 3 rfl).trans ((hF572.1 3 rfl).trans ((hF559.1 3 rfl).trans (e_li))))) (show A582 4 (ln).toNat = le from (congrFun ((hF586.2 4 rfl).trans ((hF572.2 4 rfl).trans (hF559.2 4 rfl))) _).trans (e_le)) (show A582 3 (ln2_583).toNat = A 3 (ln2_583).toNat from (congrFun ((hF586.2 3 rfl).trans ((hF572.2 3 rfl).trans (hF559.2 3 rfl))) _)) (show ln2_583 = ln + 1 by omega) (by omega) hh
            refine jx_ld (pc' := 119) (l' := L566) (st' := [.int (i32 (nd))]) rfl (jl_iloadn gL566_2) ?_
            refine jx_rt (v := some (.int (i32 (nd)))) rfl rfl rfl rfl rfl rfl ?_
            exact ⟨_, _, _, ln2_583, at2_569, fk2_584, nd2_557, sy, na, vi, A 3 (ln2_583).toNat, rfl, rfl, hW585, hF590, hP591, by omega, (e587), ((hF586.1 10 rfl).trans (e573)), (e588), ((hF586.1 31 rfl).trans ((hF572.1 31 rfl).trans (e561))), ((hF586.1 19 rfl).trans ((hF572.1 19 rfl).trans ((hF559.1 19 rfl).trans (e_sy)))), ((hF586.1 28 rfl).trans ((hF572.1 28 rfl).trans ((hF559.1 28 rfl).trans (e_na)))), ((hF586.1 29 rfl).trans ((hF572.1 29 rfl).trans ((hF559.1 29 rfl).trans (e_vi)))), (congrFun ((hF586.2 3 rfl).trans ((hF572.2 3 rfl).trans (hF559.2 3 rfl))) _), by omega, by omega, by omega, by omega, by omega, by omega, by omega, by omega, by omega, by omega, by first | exact Or.inl (⟨by omega, by omega⟩) | exact Or.inr ((⟨by omega, by omega, by omega, by omega, by omega, by omega, by omega⟩))⟩
          · have _q : True := trivial
            refine jx_ld (pc' := 119) (l' := L566) (st' := [.int (i32 (nd))]) rfl (jl_iloadn gL566_2) ?_
            refine jx_rt (v := some (.int (i32 (nd)))) rfl rfl rfl rfl rfl rfl ?_
            exact ⟨_, _, _, ln2_583, at2_569, fk2_584, nd2_557, sy, na, vi, A 3 (ln2_583).toNat, rfl, rfl, hW585, hF590, hP591, by omega, (e587), ((hF586.1 10 rfl).trans (e573)), (e588), ((hF586.1 31 rfl).trans ((hF572.1 31 rfl).trans (e561))), ((hF586.1 19 rfl).trans ((hF572.1 19 rfl).trans ((hF559.1 19 rfl).trans (e_sy)))), ((hF586.1 28 rfl).trans ((hF572.1 28 rfl).trans ((hF559.1 28 rfl).trans (e_na)))), ((hF586.1 29 rfl).trans ((hF572.1 29 rfl).trans ((hF559.1 29 rfl).trans (e_vi)))), (congrFun ((hF586.2 3 rfl).trans ((hF572.2 3 rfl).trans (hF559.2 3 rfl))) _), by omega, by omega, by omega, by omega, by omega, by omega, by omega, by omega, by omega, by omega, by first | exact Or.inl (⟨by omega, by omega⟩) | exact Or.inr ((⟨by omega, by omega, by omega, by omega, by omega, by omega, by omega⟩))⟩
        · have _q := h554
          refine jx_ar (pc' := 97) (st' := [.int (i32 (20)), .ref 66]) rfl rfl rfl rfl ?_
          refine jx_go (tg := 102) rfl rfl ?_
          refine jx_ar (pc' := 103) (st' := [.int (i32 (0)), .int (i32 (20)), .ref 66]) rfl rfl rfl rfl ?_
          refine jx_ar (pc' := 104) (st' := [.int (i32 (0)), .int (i32 (0)), .int (i32 (20)), .ref 66]) rfl rfl rfl rfl ?_
          refine jx_ar (pc' := 105) (st' := [.int (i32 (0)), .int (i32 (0)), .int (i32 (0)), .int (i32 (20)), .ref 66]) rfl rfl rfl rfl ?_
          refine jx_ar (pc' := 106) (st' := [.int (i32 (0)), .int (i32 (0)), .int (i32 (0)), .int (i32 (0)), .int (i32 (20)), .ref 66]) rfl rfl rfl rfl ?_
          refine jx_vr (pc' := 109) (as := [.int (i32 (20)), .int (i32 (0)), .int (i32 (0)), .int (i32 (0)), .int (i32 (0))]) (st := []) rfl rfl rfl rfl ⟨rfl, rfl, Nat.le_of_ble_eq_true rfl⟩ rfl rfl (c_node (dd := d) (hd := by omega) (hW := hW) (kind := 20) (a := 0) (b := 0) (c := 0) (e := 0) (nd := nd) (e_nd := show G 31 = nd from (e_nd))  (h_kind := ⟨(by decide), (by decide)⟩) (h_a := ⟨(by decide), (by decide)⟩) (h_b := ⟨(by decide), (by decide)⟩) (h_c := ⟨(by decide), (by decide)⟩) (h_e := ⟨(by decide), (by decide)⟩)  (p_0 := by omega) (p_1 := by omega)) (fun o V' hq => ?_)
          obtain ⟨G601, A602, nd2_603, rfl, rfl, hW604, hF605, hQ606, e607, p608, -⟩ := hq
          have hF610 := Fr_tr hF0 hF605 (Fr_sub (by decide)) (Fr_sub (by decide))
          have hP611 := Pf_tr hP0 hQ606 (by omega)
          have bnd2_603 : (0 : Int) ≤ nd2_603 ∧ nd2_603 ≤ 6999 := e607 ▸ hW604.1 31
          refine .inr ⟨_, rfl, ?_⟩
          refine jx_ld (pc' := 110) (l' := jSto1 L7 2 (.int (i32 (nd)))) (st' := []) rfl rfl ?_
          obtain ⟨L612, eL612⟩ : ∃ q, q = jSto1 L7 2 (.int (i32 (nd))) := ⟨_, rfl⟩
          rw [← eL612]
          have gL612_0 : jGet L612 0 = some (.ref 66) := eL612 ▸ jg_ne (by decide) gL7_0 rfl
          have gL612_1 : jGet L612 1 = some (.int (i32 (lv))) := eL612 ▸ jg_ne (by decide) gL7_1 rfl
          have gL612_3 : jGet L612 3 = some (.int (i32 (G 13))) := eL612 ▸ jg_ne (by decide) gL7_3 rfl
          have gL612_2 : jGet L612 2 = some (.int (i32 (nd))) := eL612 ▸ jg_eq
          refine jx_ld (pc' := 111) (l' := L612) (st' := [.ref 66]) rfl (jl_aloadn gL612_0) ?_
          refine jx_vr (pc' := 114) (as := []) (st := []) rfl rfl rfl rfl ⟨rfl, rfl, Nat.le_of_ble_eq_true rfl⟩ rfl rfl (c_next (dd := d) (hd := by omega) (hW := hW604)  (ln := ln) (e_ln := show G601 9 = ln from ((hF605.1 9 rfl).trans (e_ln))) (le := le) (e_le := show A602 4 (ln).toNat = le from (congrFun (hF605.2 4 rfl) _).trans (e_le)) (at0 := at0) (e_at0 := show G601 10 = at0 from ((hF605.1 10 rfl).trans (e_at0)))    (p_0 := by omega)) (fun o V' hq => ?_)
          obtain ⟨G613, A614, at2_615, tk2_616, rfl, rfl, hW617, hF618, e619, e620, p621, p622, p623, -⟩ := hq
          have hF625 := Fr_tr hF610 hF618 (Fr_sub (by decide)) (Fr_sub (by decide))
          have hP626 := Pf_f hP611 hF618 (by decide)
          have bat2_615 : (0 : Int) ≤ at2_615 ∧ at2_615 ≤ 3002 := e619 ▸ hW617.1 10
          have ztk2_616 := tz_b tk2_616
          have btk2_616 : (0 : Int) ≤ tk2_616 ∧ tk2_616 ≤ 5 := e620 ▸ hW617.1 11
          refine .inl ⟨rfl, ?_⟩
          refine jx_ld (pc' := 115) (l' := L612) (st' := [.ref 66]) rfl (jl_aloadn gL612_0) ?_
          refine jx_vr (pc' := 118) (as := []) (st := []) rfl rfl rfl rfl ⟨rfl, rfl, Nat.le_of_ble_eq_true rfl⟩ rfl rfl (c_endLine (dd := d) (hd := by omega) (hW := hW617)  (ln := ln) (e_ln := show G613 9 = ln from ((hF618.1 9 rfl).trans ((hF605.1 9 rfl).trans (e_ln)))) (li := li) (e_li := show G613 3 = li from ((hF618.1 3 rfl).trans ((hF605.1 3 rfl).trans (e_li)))) (fk := fk) (e_fk := show G613 16 = fk from ((hF618.1 16 rfl).trans ((hF605.1 16 rfl).trans (e_fk)))) (tk0 := tk2_616) (e_tk0 := show G613 11 = tk2_616 from (e620))    (p_0 := by omega)) (fun o V' hq => ?_)
          obtain ⟨G627, A628, ln2_629, fk2_630, rfl, rfl, hW631, hF632, e633, e634, q635⟩ := hq
          have hF636 := Fr_tr hF625 hF632 (Fr_sub (by decide)) (Fr_sub (by decide))
          have hP637 := Pf_f hP626 hF632 (by decide)
          have bln2_629 : (0 : Int) ≤ ln2_629 ∧ ln2_629 ≤ 3000 := e633 ▸ hW631.1 9
          have bfk2_630 : (0 : Int) ≤ fk2_630 ∧ fk2_630 ≤ 6 := e634 ▸ hW631.1 16
          refine .inl ⟨rfl, ?_⟩
          rcases q635 with ⟨a638, a639, a640, a641, a642⟩ | ⟨a643, a644⟩
          · have _q : True := trivial
            have b645 : (0 : Int) ≤ A 3 (ln2_629).toNat ∧ A 3 (ln2_629).toNat ≤ 3000 := hW.2 3 _
            have lt646 : ln2_629 < li → le < A 3 (ln2_629).toNat := fun hh => LT_nx (LT_ext (((hF632.1 3 rfl).trans ((hF618.1 3 rfl).trans (hF605.1 3 rfl)))) (((hF632.2 3 rfl).trans ((hF618.2 3 rfl).trans (hF605.2 3 rfl)))) (((hF632.2 4 rfl).trans ((hF618.2 4 rfl).trans (hF605.2 4 rfl)))) i_LT) (show G627 3 = li from ((hF632.1 3 rfl).trans ((hF618.1 3 rfl).trans ((hF605.1 3 rfl).trans (e_li))))) (show A628 4 (ln).toNat = le from (congrFun ((hF632.2 4 rfl).trans ((hF618.2 4 rfl).trans (hF605.2 4 rfl))) _).trans (e_le)) (show A628 3 (ln2_629).toNat = A 3 (ln2_629).toNat from (congrFun ((hF632.2 3 rfl).trans ((hF618.2 3 rfl).trans (hF605.2 3 rfl))) _)) (show ln2_629 = ln + 1 by omega) (by omega) hh
            refine jx_ld (pc' := 119) (l' := L612) (st' := [.int (i32 (nd))]) rfl (jl_iloadn gL612_2) ?_
            refine jx_rt (v := some (.int (i32 (nd)))) rfl rfl rfl rfl rfl rfl ?_
            exact ⟨_, _, _, ln2_629, at2_615, fk2_630, nd2_603, sy, na, vi, A 3 (ln2_629).toNat, rfl, rfl, hW631, hF636, hP637, by omega, (e633), ((hF632.1 10 rfl).trans (e619)), (e634), ((hF632.1 31 rfl).trans ((hF618.1 31 rfl).trans (e607))), ((hF632.1 19 rfl).trans ((hF618.1 19 rfl).trans ((hF605.1 19 rfl).trans (e_sy)))), ((hF632.1 28 rfl).trans ((hF618.1 28 rfl).trans ((hF605.1 28 rfl).trans (e_na)))), ((hF632.1 29 rfl).trans ((hF618.1 29 rfl).trans ((hF605.1 29 rfl).trans (e_vi)))), (congrFun ((hF632.2 3 rfl).trans ((hF618.2 3 rfl).trans (hF605.2 3 rfl))) _), by omega, by omega, by omega, by omega, by omega, by omega, by omega, by omega, by omega, by omega, by first | exact Or.inl (⟨by omega, by omega⟩) | exact Or.inr ((⟨by omega, by omega, by omega, by omega, by omega, by omega, by omega⟩))⟩
          · have _q : True := trivial
            refine jx_ld (pc' := 119) (l' := L612) (st' := [.int (i32 (nd))]) rfl (jl_iloadn gL612_2) ?_
            refine jx_rt (v := some (.int (i32 (nd)))) rfl rfl rfl rfl rfl rfl ?_
            exact ⟨_, _, _, ln2_629, at2_615, fk2_630, nd2_603, sy, na, vi, A 3 (ln2_629).toNat, rfl, rfl, hW631, hF636, hP637, by omega, (e633), ((hF632.1 10 rfl).trans (e619)), (e634), ((hF632.1 31 rfl).trans ((hF618.1 31 rfl).trans (e607))), ((hF632.1 19 rfl).trans ((hF618.1 19 rfl).trans ((hF605.1 19 rfl).trans (e_sy)))), ((hF632.1 28 rfl).trans ((hF618.1 28 rfl).trans ((hF605.1 28 rfl).trans (e_na)))), ((hF632.1 29 rfl).trans ((hF618.1 29 rfl).trans ((hF605.1 29 rfl).trans (e_vi)))), (congrFun ((hF632.2 3 rfl).trans ((hF618.2 3 rfl).trans (hF605.2 3 rfl))) _), by omega, by omega, by omega, by omega, by omega, by omega, by omega, by omega, by omega, by omega, by first | exact Or.inl (⟨by omega, by omega⟩) | exact Or.inr ((⟨by omega, by omega, by omega, by omega, by omega, by omega, by omega⟩))⟩
      · refine jx_swe (z := 8) (tg := 88) h8 rfl rfl rfl rfl ?_
        refine jx_ld (pc' := 89) (l' := L7) (st' := [.ref 66]) rfl (jl_aloadn gL7_0) ?_
        refine jx_ld (pc' := 90) (l' := L7) (st' := [.int (i32 (G 13)), .ref 66]) rfl (jl_iloadn gL7_3) ?_
        refine jx_ar (pc' := 92) (st' := [.int (i32 (7)), .int (i32 (G 13)), .ref 66]) rfl rfl rfl rfl ?_
        refine jx_icmp_ne (pc' := 95) (tg := 100) rfl rfl rfl (Int.le_trans (by decide : (-2147483648 : Int) ≤ -2147483648) b6.1) (Int.le_trans b6.2 (by decide : (2147483647 : Int) ≤ 2147483647)) (by decide) (by decide) (fun h647 => ?_) (fun h647 => ?_)
        · have _q := h647
          refine jx_ar (pc' := 102) (st' := [.int (i32 (21)), .ref 66]) rfl rfl rfl rfl ?_
          refine jx_ar (pc' := 103) (st' := [.int (i32 (0)), .int (i32 (21)), .ref 66]) rfl rfl rfl rfl ?_
          refine jx_ar (pc' := 104) (st' := [.int (i32 (0)), .int (i32 (0)), .int (i32 (21)), .ref 66]) rfl rfl rfl rfl ?_
          refine jx_ar (pc' := 105) (st' := [.int (i32 (0)), .int (i32 (0)), .int (i32 (0)), .int (i32 (21)), .ref 66]) rfl rfl rfl rfl ?_
          refine jx_ar (pc' := 106) (st' := [.int (i32 (0)), .int (i32 (0)), .int (i32 (0)), .int (i32 (0)), .int (i32 (21)), .ref 66]) rfl rfl rfl rfl ?_
          refine jx_vr (pc' := 109) (as := [.int (i32 (21)), .int (i32 (0)), .int (i32 (0)), .int (i32 (0)), .int (i32 (0))]) (st := []) rfl rfl rfl rfl ⟨rfl, rfl, Nat.le_of_ble_eq_true rfl⟩ rfl rfl (c_node (dd := d) (hd := by omega) (hW := hW) (kind := 21) (a := 0) (b := 0) (c := 0) (e := 0) (nd := nd) (e_nd := show G 31 = nd from (e_nd))  (h_kind := ⟨(by decide), (by decide)⟩) (h_a := ⟨(by decide), (by decide)⟩) (h_b := ⟨(by decide), (by decide)⟩) (h_c := ⟨(by decide), (by decide)⟩) (h_e := ⟨(by decide), (by decide)⟩)  (p_0 := by omega) (p_1 := by omega)) (fun o V' hq => ?_)
          obtain ⟨G648, A649, nd2_650, rfl, rfl, hW651, hF652, hQ653, e654, p655, -⟩ := hq
          have hF657 := Fr_tr hF0 hF652 (Fr_sub (by decide)) (Fr_sub (by decide))
          have hP658 := Pf_tr hP0 hQ653 (by omega)
          have bnd2_650 : (0 : Int) ≤ nd2_650 ∧ nd2_650 ≤ 6999 := e654 ▸ hW651.1 31
          refine .inr ⟨_, rfl, ?_⟩
          refine jx_ld (pc' := 110) (l' := jSto1 L7 2 (.int (i32 (nd)))) (st' := []) rfl rfl ?_
          obtain ⟨L659, eL659⟩ : ∃ q, q = jSto1 L7 2 (.int (i32 (nd))) := ⟨_, rfl⟩
          rw [← eL659]
          have gL659_0 : jGet L659 0 = some (.ref 66) := eL659 ▸ jg_ne (by decide) gL7_0 rfl
          have gL659_1 : jGet L659 1 = some (.int (i32 (lv))) := eL659 ▸ jg_ne (by decide) gL7_1 rfl
          have gL659_3 : jGet L659 3 = some (.int (i32 (G 13))) := eL659 ▸ jg_ne (by decide) gL7_3 rfl
          have gL659_2 : jGet L659 2 = some (.int (i32 (nd))) := eL659 ▸ jg_eq
          refine jx_ld (pc' := 111) (l' := L659) (st' := [.ref 66]) rfl (jl_aloadn gL659_0) ?_
          refine jx_vr (pc' := 114) (as := []) (st := []) rfl rfl rfl rfl ⟨rfl, rfl, Nat.le_of_ble_eq_true rfl⟩ rfl rfl (c_next (dd := d) (hd := by omega) (hW := hW651)  (ln := ln) (e_ln := show G648 9 = ln from ((hF652.1 9 rfl).trans (e_ln))) (le := le) (e_le := show A649 4 (ln).toNat = le from (congrFun (hF652.2 4 rfl) _).trans (e_le)) (at0 := at0) (e_at0 := show G648 10 = at0 from ((hF652.1 10 rfl).trans (e_at0)))    (p_0 := by omega)) (fun o V' hq => ?_)
          obtain ⟨G660, A661, at2_662, tk2_663, rfl, rfl, hW664, hF665, e666, e667, p668, p669, p670, -⟩ := hq
          have hF672 := Fr_tr hF657 hF665 (Fr_sub (by decide)) (Fr_sub (by decide))
          have hP673 := Pf_f hP658 hF665 (by decide)
          have bat2_662 : (0 : Int) ≤ at2_662 ∧ at2_662 ≤ 3002 := e666 ▸ hW664.1 10
          have ztk2_663 := tz_b tk2_663
          have btk2_663 : (0 : Int) ≤ tk2_663 ∧ tk2_663 ≤ 5 := e667 ▸ hW664.1 11
          refine .inl ⟨rfl, ?_⟩
          refine jx_ld (pc' := 115) (l' := L659) (st' := [.ref 66]) rfl (jl_aloadn gL659_0) ?_
          refine jx_vr (pc' := 118) (as := []) (st := []) rfl rfl rfl rfl ⟨rfl, rfl, Nat.le_of_ble_eq_true rfl⟩ rfl rfl (c_endLine (dd := d) (hd := by omega) (hW := hW664)  (ln := ln) (e_ln := show G660 9 = ln from ((hF665.1 9 rfl).trans ((hF652.1 9 rfl).trans (e_ln)))) (li := li) (e_li := show G660 3 = li from ((hF665.1 3 rfl).trans ((hF652.1 3 rfl).trans (e_li)))) (fk := fk) (e_fk := show G660 16 = fk from ((hF665.1 16 rfl).trans ((hF652.1 16 rfl).trans (e_fk)))) (tk0 := tk2_663) (e_tk0 := show G660 11 = tk2_663 from (e667))    (p_0 := by omega)) (fun o V' hq => ?_)
          obtain ⟨G674, A675, ln2_676, fk2_677, rfl, rfl, hW678, hF679, e680, e681, q682⟩ := hq
          have hF683 := Fr_tr hF672 hF679 (Fr_sub (by decide)) (Fr_sub (by decide))
          have hP684 := Pf_f hP673 hF679 (by decide)
          have bln2_676 : (0 : Int) ≤ ln2_676 ∧ ln2_676 ≤ 3000 := e680 ▸ hW678.1 9
          have bfk2_677 : (0 : Int) ≤ fk2_677 ∧ fk2_677 ≤ 6 := e681 ▸ hW678.1 16
          refine .inl ⟨rfl, ?_⟩
          rcases q682 with ⟨a685, a686, a687, a688, a689⟩ | ⟨a690, a691⟩
          · have _q : True := trivial
            have b692 : (0 : Int) ≤ A 3 (ln2_676).toNat ∧ A 3 (ln2_676).toNat ≤ 3000 := hW.2 3 _
            have lt693 : ln2_676 < li → le < A 3 (ln2_676).toNat := fun hh => LT_nx (LT_ext (((hF679.1 3 rfl).trans ((hF665.1 3 rfl).trans (hF652.1 3 rfl)))) (((hF679.2 3 rfl).trans ((hF665.2 3 rfl).trans (hF652.2 3 rfl)))) (((hF679.2 4 rfl).trans ((hF665.2 4 rfl).trans (hF652.2 4 rfl)))) i_LT) (show G674 3 = li from ((hF679.1 3 rfl).trans ((hF665.1 3 rfl).trans ((hF652.1 3 rfl).trans (e_li))))) (show A675 4 (ln).toNat = le from (congrFun ((hF679.2 4 rfl).trans ((hF665.2 4 rfl).trans (hF652.2 4 rfl))) _).trans (e_le)) (show A675 3 (ln2_676).toNat = A 3 (ln2_676).toNat from (congrFun ((hF679.2 3 rfl).trans ((hF665.2 3 rfl).trans (hF652.2 3 rfl))) _)) (show ln2_676 = ln + 1 by omega) (by omega) hh
            refine jx_ld (pc' := 119) (l' := L659) (st' := [.int (i32 (nd))]) rfl (jl_iloadn gL659_2) ?_
            refine jx_rt (v := some (.int (i32 (nd)))) rfl rfl rfl rfl rfl rfl ?_
            exact ⟨_, _, _, ln2_676, at2_662, fk2_677, nd2_650, sy, na, vi, A 3 (ln2_676).toNat, rfl, rfl, hW678, hF683, hP684, by omega, (e680), ((hF679.1 10 rfl).trans (e666)), (e681), ((hF679.1 31 rfl).trans ((hF665.1 31 rfl).trans (e654))), ((hF679.1 19 rfl).trans ((hF665.1 19 rfl).trans ((hF652.1 19 rfl).trans (e_sy)))), ((hF679.1 28 rfl).trans ((hF665.1 28 rfl).trans ((hF652.1 28 rfl).trans (e_na)))), ((hF679.1 29 rfl).trans ((hF665.1 29 rfl).trans ((hF652.1 29 rfl).trans (e_vi)))), (congrFun ((hF679.2 3 rfl).trans ((hF665.2 3 rfl).trans (hF652.2 3 rfl))) _), by omega, by omega, by omega, by omega, by omega, by omega, by omega, by omega, by omega, by omega, by first | exact Or.inl (⟨by omega, by omega⟩) | exact Or.inr ((⟨by omega, by omega, by omega, by omega, by omega, by omega, by omega⟩))⟩
          · have _q : True := trivial
            refine jx_ld (pc' := 119) (l' := L659) (st' := [.int (i32 (nd))]) rfl (jl_iloadn gL659_2) ?_
            refine jx_rt (v := some (.int (i32 (nd)))) rfl rfl rfl rfl rfl rfl ?_
            exact ⟨_, _, _, ln2_676, at2_662, fk2_677, nd2_650, sy, na, vi, A 3 (ln2_676).toNat, rfl, rfl, hW678, hF683, hP684, by omega, (e680), ((hF679.1 10 rfl).trans (e666)), (e681), ((hF679.1 31 rfl).trans ((hF665.1 31 rfl).trans (e654))), ((hF679.1 19 rfl).trans ((hF665.1 19 rfl).trans ((hF652.1 19 rfl).trans (e_sy)))), ((hF679.1 28 rfl).trans ((hF665.1 28 rfl).trans ((hF652.1 28 rfl).trans (e_na)))), ((hF679.1 29 rfl).trans ((hF665.1 29 rfl).trans ((hF652.1 29 rfl).trans (e_vi)))), (congrFun ((hF679.2 3 rfl).trans ((hF665.2 3 rfl).trans (hF652.2 3 rfl))) _), by omega, by omega, by omega, by omega, by omega, by omega, by omega, by omega, by omega, by omega, by first | exact Or.inl (⟨by omega, by omega⟩) | exact Or.inr ((⟨by omega, by omega, by omega, by omega, by omega, by omega, by omega⟩))⟩
        · have _q := h647
          refine jx_ar (pc' := 97) (st' := [.int (i32 (20)), .ref 66]) rfl rfl rfl rfl ?_
          refine jx_go (tg := 102) rfl rfl ?_
          refine jx_ar (pc' := 103) (st' := [.int (i32 (0)), .int (i32 (20)), .ref 66]) rfl rfl rfl rfl ?_
          refine jx_ar (pc' := 104) (st' := [.int (i32 (0)), .int (i32 (0)), .int (i32 (20)), .ref 66]) rfl rfl rfl rfl ?_
          refine jx_ar (pc' := 105) (st' := [.int (i32 (0)), .int (i32 (0)), .int (i32 (0)), .int (i32 (20)), .ref 66]) rfl rfl rfl rfl ?_
          refine jx_ar (pc' := 106) (st' := [.int (i32 (0)), .int (i32 (0)), .int (i32 (0)), .int (i32 (0)), .int (i32 (20)), .ref 66]) rfl rfl rfl rfl ?_
          refine jx_vr (pc' := 109) (as := [.int (i32 (20)), .int (i32 (0)), .int (i32 (0)), .int (i32 (0)), .int (i32 (0))]) (st := []) rfl rfl rfl rfl ⟨rfl, rfl, Nat.le_of_ble_eq_true rfl⟩ rfl rfl (c_node (dd := d) (hd := by omega) (hW := hW) (kind := 20) (a := 0) (b := 0) (c := 0) (e := 0) (nd := nd) (e_nd := show G 31 = nd from (e_nd))  (h_kind := ⟨(by decide), (by decide)⟩) (h_a := ⟨(by decide), (by decide)⟩) (h_b := ⟨(by decide), (by decide)⟩) (h_c := ⟨(by decide), (by decide)⟩) (h_e := ⟨(by decide), (by decide)⟩)  (p_0 := by omega) (p_1 := by omega)) (fun o V' hq => ?_)
          obtain ⟨G694, A695, nd2_696, rfl, rfl, hW697, hF698, hQ699, e700, p701, -⟩ := hq
          have hF703 := Fr_tr hF0 hF698 (Fr_sub (by decide)) (Fr_sub (by decide))
          have hP704 := Pf_tr hP0 hQ699 (by omega)
          have bnd2_696 : (0 : Int) ≤ nd2_696 ∧ nd2_696 ≤ 6999 := e700 ▸ hW697.1 31
          refine .inr ⟨_, rfl, ?_⟩
          refine jx_ld (pc' := 110) (l' := jSto1 L7 2 (.int (i32 (nd)))) (st' := []) rfl rfl ?_
          obtain ⟨L705, eL705⟩ : ∃ q, q = jSto1 L7 2 (.int (i32 (nd))) := ⟨_, rfl⟩
          rw [← eL705]
          have gL705_0 : jGet L705 0 = some (.ref 66) := eL705 ▸ jg_ne (by decide) gL7_0 rfl
          have gL705_1 : jGet L705 1 = some (.int (i32 (lv))) := eL705 ▸ jg_ne (by decide) gL7_1 rfl
          have gL705_3 : jGet L705 3 = some (.int (i32 (G 13))) := eL705 ▸ jg_ne (by decide) gL7_3 rfl
          have gL705_2 : jGet L705 2 = some (.int (i32 (nd))) := eL705 ▸ jg_eq
          refine jx_ld (pc' := 111) (l' := L705) (st' := [.ref 66]) rfl (jl_aloadn gL705_0) ?_
          refine jx_vr (pc' := 114) (as := []) (st := []) rfl rfl rfl rfl ⟨rfl, rfl, Nat.le_of_ble_eq_true rfl⟩ rfl rfl (c_next (dd := d) (hd := by omega) (hW := hW697)  (ln := ln) (e_ln := show G694 9 = ln from ((hF698.1 9 rfl).trans (e_ln))) (le := le) (e_le := show A695 4 (ln).toNat = le from (congrFun (hF698.2 4 rfl) _).trans (e_le)) (at0 := at0) (e_at0 := show G694 10 = at0 from ((hF698.1 10 rfl).trans (e_at0)))    (p_0 := by omega)) (fun o V' hq => ?_)
          obtain ⟨G706, A707, at2_708, tk2_709, rfl, rfl, hW710, hF711, e712, e713, p714, p715, p716, -⟩ := hq
          have hF718 := Fr_tr hF703 hF711 (Fr_sub (by decide)) (Fr_sub (by decide))
          have hP719 := Pf_f hP704 hF711 (by decide)
          have bat2_708 : (0 : Int) ≤ at2_708 ∧ at2_708 ≤ 3002 := e712 ▸ hW710.1 10
          have ztk2_709 := tz_b tk2_709
          have btk2_709 : (0 : Int) ≤ tk2_709 ∧ tk2_709 ≤ 5 := e713 ▸ hW710.1 11
          refine .inl ⟨rfl, ?_⟩
          refine jx_ld (pc' := 115) (l' := L705) (st' := [.ref 66]) rfl (jl_aloadn gL705_0) ?_
          refine jx_vr (pc' := 118) (as := []) (st := []) rfl rfl rfl rfl ⟨rfl, rfl, Nat.le_of_ble_eq_true rfl⟩ rfl rfl (c_endLine (dd := d) (hd := by omega) (hW := hW710)  (ln := ln) (e_ln := show G706 9 = ln from ((hF711.1 9 rfl).trans ((hF698.1 9 rfl).trans (e_ln)))) (li := li) (e_li := show G706 3 = li from ((hF711.1 3 rfl).trans ((hF698.1 3 rfl).trans (e_li)))) (fk := fk) (e_fk := show G706 16 = fk from ((hF711.1 16 rfl).trans ((hF698.1 16 rfl).trans (e_fk)))) (tk0 := tk2_709) (e_tk0 := show G706 11 = tk2_709 from (e713))    (p_0 := by omega)) (fun o V' hq => ?_)
          obtain ⟨G720, A721, ln2_722, fk2_723, rfl, rfl, hW724, hF725, e726, e727, q728⟩ := hq
          have hF729 := Fr_tr hF718 hF725 (Fr_sub (by decide)) (Fr_sub (by decide))
          have hP730 := Pf_f hP719 hF725 (by decide)
          have bln2_722 : (0 : Int) ≤ ln2_722 ∧ ln2_722 ≤ 3000 := e726 ▸ hW724.1 9
          have bfk2_723 : (0 : Int) ≤ fk2_723 ∧ fk2_723 ≤ 6 := e727 ▸ hW724.1 16
          refine .inl ⟨rfl, ?_⟩
          rcases q728 with ⟨a731, a732, a733, a734, a735⟩ | ⟨a736, a737⟩
          · have _q : True := trivial
            have b738 : (0 : Int) ≤ A 3 (ln2_722).toNat ∧ A 3 (ln2_722).toNat ≤ 3000 := hW.2 3 _
            have lt739 : ln2_722 < li → le < A 3 (ln2_722).toNat := fun hh => LT_nx (LT_ext (((hF725.1 3 rfl).trans ((hF711.1 3 rfl).trans (hF698.1 3 rfl)))) (((hF725.2 3 rfl).trans ((hF711.2 3 rfl).trans (hF698.2 3 rfl)))) (((hF725.2 4 rfl).trans ((hF711.2 4 rfl).trans (hF698.2 4 rfl)))) i_LT) (show G720 3 = li from ((hF725.1 3 rfl).trans ((hF711.1 3 rfl).trans ((hF698.1 3 rfl).trans (e_li))))) (show A721 4 (ln).toNat = le from (congrFun ((hF725.2 4 rfl).trans ((hF711.2 4 rfl).trans (hF698.2 4 rfl))) _).trans (e_le)) (show A721 3 (ln2_722).toNat = A 3 (ln2_722).toNat from (congrFun ((hF725.2 3 rfl).trans ((hF711.2 3 rfl).trans (hF698.2 3 rfl))) _)) (show ln2_722 = ln + 1 by omega) (by omega) hh
            refine jx_ld (pc' := 119) (l' := L705) (st' := [.int (i32 (nd))]) rfl (jl_iloadn gL705_2) ?_
            refine jx_rt (v := some (.int (i32 (nd)))) rfl rfl rfl rfl rfl rfl ?_
            exact ⟨_, _, _, ln2_722, at2_708, fk2_723, nd2_696, sy, na, vi, A 3 (ln2_722).toNat, rfl, rfl, hW724, hF729, hP730, by omega, (e726), ((hF725.1 10 rfl).trans (e712)), (e727), ((hF725.1 31 rfl).trans ((hF711.1 31 rfl).trans (e700))), ((hF725.1 19 rfl).trans ((hF711.1 19 rfl).trans ((hF698.1 19 rfl).trans (e_sy)))), ((hF725.1 28 rfl).trans ((hF711.1 28 rfl).trans ((hF698.1 28 rfl).trans (e_na)))), ((hF725.1 29 rfl).trans ((hF711.1 29 rfl).trans ((hF698.1 29 rfl).trans (e_vi)))), (congrFun ((hF725.2 3 rfl).trans ((hF711.2 3 rfl).trans (hF698.2 3 rfl))) _), by omega, by omega, by omega, by omega, by omega, by omega, by omega, by omega, by omega, by omega, by first | exact Or.inl (⟨by omega, by omega⟩) | exact Or.inr ((⟨by omega, by omega, by omega, by omega, by omega, by omega, by omega⟩))⟩
          · have _q : True := trivial
            refine jx_ld (pc' := 119) (l' := L705) (st' := [.int (i32 (nd))]) rfl (jl_iloadn gL705_2) ?_
            refine jx_rt (v := some (.int (i32 (nd)))) rfl rfl rfl rfl rfl rfl ?_
            exact ⟨_, _, _, ln2_722, at2_708, fk2_723, nd2_696, sy, na, vi, A 3 (ln2_722).toNat, rfl, rfl, hW724, hF729, hP730, by omega, (e726), ((hF725.1 10 rfl).trans (e712)), (e727), ((hF725.1 31 rfl).trans ((hF711.1 31 rfl).trans (e700))), ((hF725.1 19 rfl).trans ((hF711.1 19 rfl).trans ((hF698.1 19 rfl).trans (e_sy)))), ((hF725.1 28 rfl).trans ((hF711.1 28 rfl).trans ((hF698.1 28 rfl).trans (e_na)))), ((hF725.1 29 rfl).trans ((hF711.1 29 rfl).trans ((hF698.1 29 rfl).trans (e_vi)))), (congrFun ((hF725.2 3 rfl).trans ((hF711.2 3 rfl).trans (hF698.2 3 rfl))) _), by omega, by omega, by omega, by omega, by omega, by omega, by omega, by omega, by omega, by omega, by first | exact Or.inl (⟨by omega, by omega⟩) | exact Or.inr ((⟨by omega, by omega, by omega, by omega, by omega, by omega, by omega⟩))⟩
      · refine jx_swt (tg := 259) (by omega) (by omega) rfl h8 rfl ?_
        refine jx_ld (pc' := 260) (l' := L7) (st' := [.ref 66]) rfl (jl_aloadn gL7_0) ?_
        refine jx_ar (pc' := 261) (st' := [.int (i32 (1)), .ref 66]) rfl rfl rfl rfl ?_
        refine jx_ld (pc' := 262) (l' := L7) (st' := [.ref 66, .int (i32 (1)), .ref 66]) rfl (jl_aloadn gL7_0) ?_
        have b740 : (-3000 : Int) ≤ G 12 ∧ G 12 ≤ 3002 := hW.1 12
        refine jr_get (pc' := 265) (i := 12) (v := .int (i32 (G 12))) rfl rfl (by decide) rfl rfl ?_
        refine jx_vr (pc' := 268) (as := [.int (i32 (1)), .int (i32 (G 12))]) (st := []) rfl rfl rfl rfl ⟨rfl, rfl, Nat.le_of_ble_eq_true rfl⟩ rfl rfl (c_fail (dd := d) (hd := by omega) (hW := hW) (kind := 1) (place := G 12) (fk := fk) (e_fk := show G 16 = fk from (e_fk))  (h_kind := ⟨(by decide), (by decide)⟩) (h_place := ⟨(Int.le_trans (by decide : (-2147483648 : Int) ≤ -3000) b740.1), (Int.le_trans b740.2 (by decide : (3002 : Int) ≤ 2147483647))⟩)  (p_0 := by omega) (p_1 := by omega)) (fun o V' hq => ?_)
        obtain ⟨G741, A742, fk2_743, rfl, rfl, hW744, hF745, e746, p747, -⟩ := hq
        have hF749 := Fr_tr hF0 hF745 (Fr_sub (by decide)) (Fr_sub (by decide))
        have hP750 := Pf_f hP0 hF745 (by decide)
        have bfk2_743 : (0 : Int) ≤ fk2_743 ∧ fk2_743 ≤ 6 := e746 ▸ hW744.1 16
        refine .inl ⟨rfl, ?_⟩
        refine jx_ar (pc' := 269) (st' := [.int (i32 (0))]) rfl rfl rfl rfl ?_
        refine jx_rt (v := some (.int (i32 (0)))) rfl rfl rfl rfl rfl rfl ?_
        exact ⟨_, _, _, ln, at0, fk2_743, nd, sy, na, vi, A 3 (ln).toNat, rfl, rfl, hW744, hF749, hP750, by omega, ((hF745.1 9 rfl).trans (e_ln)), ((hF745.1 10 rfl).trans (e_at0)), (e746), ((hF745.1 31 rfl).trans (e_nd)), ((hF745.1 19 rfl).trans (e_sy)), ((hF745.1 28 rfl).trans (e_na)), ((hF745.1 29 rfl).trans (e_vi)), (congrFun (hF745.2 3 rfl) _), by omega, by omega, by omega, by omega, by omega, by omega, by omega, by omega, by omega, by omega, by first | exact Or.inl (⟨by omega, by omega⟩) | exact Or.inr ((⟨by omega, by omega, by omega, by omega, by omega, by omega, by omega⟩))⟩
    · have _q := h5
      refine jx_ld (pc' := 24) (l' := L1) (st' := [.ref 66]) rfl (jl_aloadn gL1_0) ?_
      refine jx_ar (pc' := 25) (st' := [.int (i32 (1)), .ref 66]) rfl rfl rfl rfl ?_
      refine jx_ld (pc' := 26) (l' := L1) (st' := [.ref 66, .int (i32 (1)), .ref 66]) rfl (jl_aloadn gL1_0) ?_
      have b751 : (-3000 : Int) ≤ G 12 ∧ G 12 ≤ 3002 := hW.1 12
      refine jr_get (pc' := 29) (i := 12) (v := .int (i32 (G 12))) rfl rfl (by decide) rfl rfl ?_
      refine jx_vr (pc' := 32) (as := [.int (i32 (1)), .int (i32 (G 12))]) (st := []) rfl rfl rfl rfl ⟨rfl, rfl, Nat.le_of_ble_eq_true rfl⟩ rfl rfl (c_fail (dd := d) (hd := by omega) (hW := hW) (kind := 1) (place := G 12) (fk := fk) (e_fk := show G 16 = fk from (e_fk))  (h_kind := ⟨(by decide), (by decide)⟩) (h_place := ⟨(Int.le_trans (by decide : (-2147483648 : Int) ≤ -3000) b751.1), (Int.le_trans b751.2 (by decide : (3002 : Int) ≤ 2147483647))⟩)  (p_0 := by omega) (p_1 := by omega)) (fun o V' hq => ?_)
      obtain ⟨G752, A753, fk2_754, rfl, rfl, hW755, hF756, e757, p758, -⟩ := hq
      have hF760 := Fr_tr hF0 hF756 (Fr_sub (by decide)) (Fr_sub (by decide))
      have hP761 := Pf_f hP0 hF756 (by decide)
      have bfk2_754 : (0 : Int) ≤ fk2_754 ∧ fk2_754 ≤ 6 := e757 ▸ hW755.1 16
      refine .inl ⟨rfl, ?_⟩
      refine jx_ar (pc' := 33) (st' := [.int (i32 (0))]) rfl rfl rfl rfl ?_
      refine jx_rt (v := some (.int (i32 (0)))) rfl rfl rfl rfl rfl rfl ?_
      exact ⟨_, _, _, ln, at0, fk2_754, nd, sy, na, vi, A 3 (ln).toNat, rfl, rfl, hW755, hF760, hP761, by omega, ((hF756.1 9 rfl).trans (e_ln)), ((hF756.1 10 rfl).trans (e_at0)), (e757), ((hF756.1 31 rfl).trans (e_nd)), ((hF756.1 19 rfl).trans (e_sy)), ((hF756.1 28 rfl).trans (e_na)), ((hF756.1 29 rfl).trans (e_vi)), (congrFun (hF756.2 3 rfl) _), by omega, by omega, by omega, by omega, by omega, by omega, by omega, by omega, by omega, by omega, by first | exact Or.inl (⟨by omega, by omega⟩) | exact Or.inr ((⟨by omega, by omega, by omega, by omega, by omega, by omega, by omega⟩))⟩
  · have _q := h3
    refine jx_ld (pc' := 11) (l' := L1) (st' := [.ref 66]) rfl (jl_aloadn gL1_0) ?_
    refine jx_vr (pc' := 14) (as := []) (st := []) rfl rfl rfl rfl ⟨rfl, rfl, Nat.le_of_ble_eq_true rfl⟩ rfl rfl (c_readNamed (dd := d) (hd := by omega) (hW := hW)  (ln := ln) (e_ln := show G 9 = ln from (e_ln)) (le := le) (e_le := show A 4 (ln).toNat = le from (e_le)) (at0 := at0) (e_at0 := show G 10 = at0 from (e_at0)) (fk := fk) (e_fk := show G 16 = fk from (e_fk)) (op0 := op0) (e_op0 := show G 15 = op0 from (e_op0)) (nd := nd) (e_nd := show G 31 = nd from (e_nd)) (tk0 := tk0) (e_tk0 := show G 11 = tk0 from (e_tk0)) (li := li) (e_li := show G 3 = li from (e_li))    (p_0 := by omega) (p_1 := by omega) (p_2 := by omega) (p_3 := by omega) (p_4 := by omega) (p_5 := by omega)) (fun o V' hq => ?_)
    obtain ⟨G762, A763, r764, at2_765, fk2_766, nd2_767, ln2_768, rfl, rfl, hW769, hF770, hQ771, b772, e773, e774, e775, e776, p777, p778, p779, p780, p781, q782⟩ := hq
    have hF783 := Fr_tr hF0 hF770 (Fr_sub (by decide)) (Fr_sub (by decide))
    have hP784 := Pf_tr hP0 hQ771 (by omega)
    have bat2_765 : (0 : Int) ≤ at2_765 ∧ at2_765 ≤ 3002 := e773 ▸ hW769.1 10
    have bfk2_766 : (0 : Int) ≤ fk2_766 ∧ fk2_766 ≤ 6 := e774 ▸ hW769.1 16
    have bnd2_767 : (0 : Int) ≤ nd2_767 ∧ nd2_767 ≤ 6999 := e775 ▸ hW769.1 31
    have bln2_768 : (0 : Int) ≤ ln2_768 ∧ ln2_768 ≤ 3000 := e776 ▸ hW769.1 9
    refine .inr ⟨_, rfl, ?_⟩
    rcases q782 with ⟨a785, a786, a787⟩ | ⟨a788, a789, a790, a791, a792⟩
    · have _q : True := trivial
      refine jx_rt (v := some (.int (i32 (r764)))) rfl rfl rfl rfl rfl rfl ?_
      exact ⟨_, _, _, ln2_768, at2_765, fk2_766, nd2_767, sy, na, vi, A 3 (ln2_768).toNat, rfl, rfl, hW769, hF783, hP784, by omega, (e776), (e773), (e774), (e775), ((hF770.1 19 rfl).trans (e_sy)), ((hF770.1 28 rfl).trans (e_na)), ((hF770.1 29 rfl).trans (e_vi)), (congrFun (hF770.2 3 rfl) _), by omega, by omega, by omega, by omega, by omega, by omega, by omega, by omega, by omega, by omega, by first | exact Or.inl (⟨by omega, by omega⟩) | exact Or.inr ((⟨by omega, by omega, by omega, by omega, by omega, by omega, by omega⟩))⟩
    · have _q : True := trivial
      have b793 : (0 : Int) ≤ A 3 (ln2_768).toNat ∧ A 3 (ln2_768).toNat ≤ 3000 := hW.2 3 _
      have lt794 : ln2_768 < li → le < A 3 (ln2_768).toNat := fun hh => LT_nx (LT_ext ((hF770.1 3 rfl)) ((hF770.2 3 rfl)) ((hF770.2 4 rfl)) i_LT) (show G762 3 = li from ((hF770.1 3 rfl).trans (e_li))) (show A763 4 (ln).toNat = le from (congrFun (hF770.2 4 rfl) _).trans (e_le)) (show A763 3 (ln2_768).toNat = A 3 (ln2_768).toNat from (congrFun (hF770.2 3 rfl) _)) (show ln2_768 = ln + 1 by omega) (by omega) hh
      refine jx_rt (v := some (.int (i32 (r764)))) rfl rfl rfl rfl rfl rfl ?_
      exact ⟨_, _, _, ln2_768, at2_765, fk2_766, nd2_767, sy, na, vi, A 3 (ln2_768).toNat, rfl, rfl, hW769, hF783, hP784, by omega, (e776), (e773), (e774), (e775), ((hF770.1 19 rfl).trans (e_sy)), ((hF770.1 28 rfl).trans (e_na)), ((hF770.1 29 rfl).trans (e_vi)), (congrFun (hF770.2 3 rfl) _), by omega, by omega, by omega, by omega, by omega, by omega, by omega, by omega, by omega, by omega, by first | exact Or.inl (⟨by omega, by omega⟩) | exact Or.inr ((⟨by omega, by omega, by omega, by omega, by omega, by omega, by omega⟩))⟩
