theorem LT_at {G : Nat → Int} {A : Nat → Nat → Int} {z li lf le : Int} (h : LT G A) (h1 : G 3 = li) (h2 : A 3 z.toNat = lf) (h3 : A 4 z.toNat = le) (h0 : 0 ≤ z) (hz : z < li) : lf < le := by
  have := (h z.toNat (by omega)).1
  omega
theorem LT_nx {G : Nat → Int} {A : Nat → Nat → Int} {z y li le lf : Int} (h : LT G A) (h1 : G 3 = li) (h2 : A 4 z.toNat = le) (h3 : A 3 y.toNat = lf) (hy : y = z + 1) (h0 : 0 ≤ z) (hz : y < li) : le < lf := by
  have := (h z.toNat (by omega)).2 (by omega)
  rw [show z.toNat + 1 = y.toNat by omega] at this
  omega
def RP (X : jX) (k : Nat) : Prop := ∀ ⦃dd : Nat⦄ ⦃c0 c1 : jC⦄ ⦃G : Nat → Int⦄ ⦃A : Nat → Nat → Int⦄ ⦃T : jH⦄ ⦃lv : Int⦄ ⦃at0 : Int⦄ ⦃ln li fk nd sy na vi lf ac : Int⦄ (hd : 8 * k + 80 ≤ dd) (hW : Wk G A) (e_ln : G 9 = ln) (e_li : G 3 = li) (e_fk : G 16 = fk) (e_nd : G 31 = nd) (e_sy : G 19 = sy) (e_na : G 28 = na) (e_vi : G 29 = vi) (e_lf : A 3 (ln).toNat = lf) (e_ac : G 10 = ac) (i_LT : LT G A) (h_lv : (-2147483648 : Int) ≤ lv ∧ lv ≤ 2147483647) (p_0 : 0 ≤ lv ∧ lv ≤ 40) (p_1 : 18 - lv ≤ (k : Int)) (p_2 : fk = 0) (p_3 : ln ≤ li) (p_4 : at0 < lf ∨ li ≤ ln) (p_5 : nd ≤ 2 * at0 + 32) (p_6 : sy ≤ na + 2) (p_7 : vi ≤ sy) (p_8 : at0 ≤ ac) (p_9 : -1 ≤ at0), wk X dd 292 [.ref 66, .int (i32 lv)] (rV c0 c1 G A T) (fun o V' => ∃ (G' : Nat → Int) (A' : Nat → Nat → Int) (r : Int) (ln2 : Int) (at2 : Int) (fk2 : Int) (nd2 : Int) (sy2 : Int) (na2 : Int) (vi2 : Int) (lf2 : Int), V' = rV c0 c1 G' A' T ∧ o = .inl (some (.int (i32 r))) ∧ Wk G' A' ∧ Fr [9, 10, 11, 12, 13, 14, 15, 16, 17, 18, 19, 28, 29, 31] [6, 7, 8, 9, 10, 11, 12, 14, 15, 16, 17, 18, 19, 20, 21, 22, 23, 24, 28] G A G' A' ∧ Pf nd A A' ∧ ((-2147483648 : Int) ≤ r ∧ r ≤ 2147483647) ∧ G' 9 = ln2 ∧ G' 10 = at2 ∧ G' 16 = fk2 ∧ G' 31 = nd2 ∧ G' 19 = sy2 ∧ G' 28 = na2 ∧ G' 29 = vi2 ∧ A' 3 (ln2).toNat = lf2 ∧ (at0 ≤ at2) ∧ (nd ≤ nd2) ∧ (sy ≤ sy2) ∧ (sy2 ≤ na2 + 2) ∧ (vi2 = vi) ∧ (0 ≤ r) ∧ (r ≤ 6999) ∧ (ln ≤ ln2) ∧ (ln2 ≤ li) ∧ (((1 ≤ fk2) ∧ (nd2 - nd ≤ 2 * at2 - 2 * at0 + 12)) ∨ ((fk2 = 0) ∧ (ln < ln2) ∧ (nd2 - nd ≤ 2 * at2 - 2 * at0) ∧ (at2 < lf2 ∨ li ≤ ln2) ∧ (nd ≤ r) ∧ (r < nd2))))
set_option maxRecDepth 20000 in
set_option maxHeartbeats 4000000 in
theorem c_readChildren {X : jX} {k : Nat} (hP : RP X k) {zz : Int} {dd : Nat} {c0 c1 : jC} {G : Nat → Int} {A : Nat → Nat → Int} {T : jH} {n lv least mo : Int} {ln li at0 fk nd sy na vi lf : Int} (hd : 8 * k + 81 ≤ dd) (hW : Wk G A) (e_ln : G 9 = ln) (e_li : G 3 = li) (e_at0 : G 10 = at0) (e_fk : G 16 = fk) (e_nd : G 31 = nd) (e_sy : G 19 = sy) (e_na : G 28 = na) (e_vi : G 29 = vi) (e_lf : A 3 (ln).toNat = lf) (i_LT : LT G A) (h_n : (-2147483648 : Int) ≤ n ∧ n ≤ 2147483647) (h_lv : (-2147483648 : Int) ≤ lv ∧ lv ≤ 2147483647) (h_least : (-2147483648 : Int) ≤ least ∧ least ≤ 2147483647) (h_mo : (-2147483648 : Int) ≤ mo ∧ mo ≤ 2147483647) (p_0 : 0 ≤ n ∧ n ≤ 6998) (p_1 : n < nd) (p_2 : 0 ≤ lv ∧ lv ≤ 15) (p_3 : 17 - lv ≤ (k : Int)) (p_4 : fk = 0) (p_5 : ln ≤ li) (p_6 : at0 < lf ∨ li ≤ ln) (p_7 : nd ≤ 2 * at0 + 32) (p_8 : sy ≤ na + 2) (p_9 : vi ≤ sy) (p_10 : 0 ≤ least ∧ least ≤ 2) (p_11 : 0 ≤ mo) (p_12 : zz ≤ n) : wk X dd 296 [.ref 66, .int (i32 n), .int (i32 lv), .int (i32 least), .int (i32 mo)] (rV c0 c1 G A T) (fun o V' => ∃ (G' : Nat → Int) (A' : Nat → Nat → Int) (ln2 : Int) (at2 : Int) (fk2 : Int) (nd2 : Int) (sy2 : Int) (na2 : Int) (vi2 : Int) (lf2 : Int), V' = rV c0 c1 G' A' T ∧ o = .inl none ∧ Wk G' A' ∧ Fr [9, 10, 11, 12, 13, 14, 15, 16, 17, 18, 19, 28, 29, 31] [6, 7, 8, 9, 10, 11, 12, 14, 15, 16, 17, 18, 19, 20, 21, 22, 23, 24, 28] G A G' A' ∧ Pf zz A A' ∧ G' 9 = ln2 ∧ G' 10 = at2 ∧ G' 16 = fk2 ∧ G' 31 = nd2 ∧ G' 19 = sy2 ∧ G' 28 = na2 ∧ G' 29 = vi2 ∧ A' 3 (ln2).toNat = lf2 ∧ (at0 ≤ at2) ∧ (nd ≤ nd2) ∧ (sy ≤ sy2) ∧ (sy2 ≤ na2 + 2) ∧ (ln ≤ ln2) ∧ (ln2 ≤ li) ∧ (vi2 = vi) ∧ (((1 ≤ fk2) ∧ (nd2 - nd ≤ 2 * at2 - 2 * at0 + 12)) ∨ ((fk2 = 0) ∧ (nd2 - nd ≤ 2 * at2 - 2 * at0) ∧ (at2 < lf2 ∨ li ≤ ln2)))) := by
  obtain ⟨d, rfl⟩ : ∃ d, dd = d + 1 := ⟨dd - 1, by omega⟩
  refine wk_of (e := jm296) rfl (Nat.le_of_ble_eq_true rfl) ?_
  show wj X d jm296 (0, [(0, .ref 66), (1, .int (i32 (n))), (2, .int (i32 (lv))), (3, .int (i32 (least))), (4, .int (i32 (mo)))], [], rV c0 c1 G A T) _
  have hF0 : Fr [9, 10, 11, 12, 13, 14, 15, 16, 17, 18, 19, 28, 29, 31] [6, 7, 8, 9, 10, 11, 12, 14, 15, 16, 17, 18, 19, 20, 21, 22, 23, 24, 28] G A G A := Fr_rf
  have hP0 : Pf zz A A := Pf_rf
  have b_ln : (0 : Int) ≤ ln ∧ ln ≤ 3000 := e_ln ▸ hW.1 9
  have b_li : (0 : Int) ≤ li ∧ li ≤ 3000 := e_li ▸ hW.1 3
  have b_at0 : (0 : Int) ≤ at0 ∧ at0 ≤ 3002 := e_at0 ▸ hW.1 10
  have b_fk : (0 : Int) ≤ fk ∧ fk ≤ 6 := e_fk ▸ hW.1 16
  have b_nd : (0 : Int) ≤ nd ∧ nd ≤ 6999 := e_nd ▸ hW.1 31
  have b_sy : (0 : Int) ≤ sy ∧ sy ≤ 202 := e_sy ▸ hW.1 19
  have b_na : (0 : Int) ≤ na ∧ na ≤ 200 := e_na ▸ hW.1 28
  have b_vi : (0 : Int) ≤ vi ∧ vi ≤ 202 := e_vi ▸ hW.1 29
  have b_lf : (0 : Int) ≤ lf ∧ lf ≤ 3000 := e_lf ▸ hW.2 3 _
  have at_6 : ∀ (m : Nat) (L : jL) (Gx : Nat → Int) (Ax : Nat → Nat → Int) (last many ln1 at1 fk1 nd1 sy1 na1 vi1 lf1 : Int), (li - ln1).toNat = m → jGet L 0 = some (.ref 66) → jGet L 1 = some (.int (i32 (n))) → jGet L 2 = some (.int (i32 (lv))) → jGet L 3 = some (.int (i32 (least))) → jGet L 4 = some (.int (i32 (mo))) → jGet L 5 = some (.int (i32 last)) → jGet L 6 = some (.int (i32 many)) → Wk Gx Ax → Fr [9, 10, 11, 12, 13, 14, 15, 16, 17, 18, 19, 28, 29, 31] [6, 7, 8, 9, 10, 11, 12, 14, 15, 16, 17, 18, 19, 20, 21, 22, 23, 24, 28] G A Gx Ax → Pf zz A Ax → Gx 9 = ln1 → Gx 10 = at1 → Gx 16 = fk1 → Gx 31 = nd1 → Gx 19 = sy1 → Gx 28 = na1 → Gx 29 = vi1 → Ax 3 (ln1).toNat = lf1 → ((-2147483648 : Int) ≤ last ∧ last ≤ 2147483647) → ((-2147483648 : Int) ≤ many ∧ many ≤ 2147483647) → (fk1 = 0) → (at0 ≤ at1) → (nd ≤ nd1) → (sy ≤ sy1) → (sy1 ≤ na1 + 2) → (vi1 = vi) → (ln ≤ ln1) → (ln1 ≤ li) → (nd1 - nd ≤ 2 * at1 - 2 * at0) → (at1 < lf1 ∨ li ≤ ln1) → (0 ≤ last ∧ last ≤ 6998) → (last = 0 ∨ zz ≤ last) → (0 ≤ many ∧ many ≤ ln1) → wj X d jm296 (6, L, [], rV c0 c1 Gx Ax T) (fun o V' => ∃ (G' : Nat → Int) (A' : Nat → Nat → Int) (ln2 : Int) (at2 : Int) (fk2 : Int) (nd2 : Int) (sy2 : Int) (na2 : Int) (vi2 : Int) (lf2 : Int), V' = rV c0 c1 G' A' T ∧ o = .inl none ∧ Wk G' A' ∧ Fr [9, 10, 11, 12, 13, 14, 15, 16, 17, 18, 19, 28, 29, 31] [6, 7, 8, 9, 10, 11, 12, 14, 15, 16, 17, 18, 19, 20, 21, 22, 23, 24, 28] G A G' A' ∧ Pf zz A A' ∧ G' 9 = ln2 ∧ G' 10 = at2 ∧ G' 16 = fk2 ∧ G' 31 = nd2 ∧ G' 19 = sy2 ∧ G' 28 = na2 ∧ G' 29 = vi2 ∧ A' 3 (ln2).toNat = lf2 ∧ (at0 ≤ at2) ∧ (nd ≤ nd2) ∧ (sy ≤ sy2) ∧ (sy2 ≤ na2 + 2) ∧ (ln ≤ ln2) ∧ (ln2 ≤ li) ∧ (vi2 = vi) ∧ (((1 ≤ fk2) ∧ (nd2 - nd ≤ 2 * at2 - 2 * at0 + 12)) ∨ ((fk2 = 0) ∧ (nd2 - nd ≤ 2 * at2 - 2 * at0) ∧ (at2 < lf2 ∨ li ≤ ln2)))) := by
    intro m
    induction m using Nat.strongRecOn with
    | ind m ih6 =>
      intro L Gx Ax last many ln1 at1 fk1 nd1 sy1 na1 vi1 lf1 hm gL_0 gL_1 gL_2 gL_3 gL_4 gL_5 gL_6 hWx hFx hPx ex_ln1 ex_at1 ex_fk1 ex_nd1 ex_sy1 ex_na1 ex_vi1 ex_lf1 rx_last rx_many iv_0 iv_1 iv_2 iv_3 iv_4 iv_5 iv_6 iv_7 iv_8 iv_9 iv_10 iv_11 iv_12
      have b_ln1 : (0 : Int) ≤ ln1 ∧ ln1 ≤ 3000 := ex_ln1 ▸ hWx.1 9
      have b_at1 : (0 : Int) ≤ at1 ∧ at1 ≤ 3002 := ex_at1 ▸ hWx.1 10
      have b_fk1 : (0 : Int) ≤ fk1 ∧ fk1 ≤ 6 := ex_fk1 ▸ hWx.1 16
      have b_nd1 : (0 : Int) ≤ nd1 ∧ nd1 ≤ 6999 := ex_nd1 ▸ hWx.1 31
      have b_sy1 : (0 : Int) ≤ sy1 ∧ sy1 ≤ 202 := ex_sy1 ▸ hWx.1 19
      have b_na1 : (0 : Int) ≤ na1 ∧ na1 ≤ 200 := ex_na1 ▸ hWx.1 28
      have b_vi1 : (0 : Int) ≤ vi1 ∧ vi1 ≤ 202 := ex_vi1 ▸ hWx.1 29
      refine jx_ld (pc' := 7) (l' := L) (st' := [.ref 66]) rfl (jl_aloadn gL_0) ?_
      refine jx_ld (pc' := 8) (l' := L) (st' := [.int (i32 (lv)), .ref 66]) rfl (jl_iloadn gL_2) ?_
      have b1 : (-1 : Int) ≤ A 5 (ln1).toNat ∧ A 5 (ln1).toNat ≤ 15 := hW.2 5 _
      refine jx_vr (pc' := 11) (as := [.int (i32 (lv))]) (st := []) rfl rfl rfl rfl ⟨rfl, rfl, Nat.le_of_ble_eq_true rfl⟩ rfl rfl (c_isBelow (dd := d) (hd := by omega) (hW := hWx) (lv := lv) (ln := ln1) (e_ln := show Gx 9 = ln1 from (ex_ln1)) (li := li) (e_li := show Gx 3 = li from ((hFx.1 3 rfl).trans (e_li))) (fk := fk1) (e_fk := show Gx 16 = fk1 from (ex_fk1)) (ll := A 5 (ln1).toNat) (e_ll := show Ax 5 (ln1).toNat = A 5 (ln1).toNat from (congrFun (hFx.2 5 rfl) _))  (h_lv := ⟨(Int.le_trans (by decide : (-2147483648 : Int) ≤ -2147483648) h_lv.1), (Int.le_trans h_lv.2 (by decide : (2147483647 : Int) ≤ 2147483647))⟩)  (p_0 := by omega)) (fun o V' hq => ?_)
      obtain ⟨G2, A3, r4, fk2_5, rfl, rfl, hW6, hF7, b8, e9, q10⟩ := hq
      have hF11 := Fr_tr hFx hF7 (Fr_sub (by decide)) (Fr_sub (by decide))
      have hP12 := Pf_f hPx hF7 (by decide)
      have bfk2_5 : (0 : Int) ≤ fk2_5 ∧ fk2_5 ≤ 6 := e9 ▸ hW6.1 16
      refine .inr ⟨_, rfl, ?_⟩
      rcases q10 with ⟨rfl, a13, a14, a15, a16⟩ | ⟨rfl, a17⟩ | ⟨rfl, a18, a19⟩
      · have _q : True := trivial
        have b20 : (0 : Int) ≤ A 4 (ln1).toNat ∧ A 4 (ln1).toNat ≤ 3000 := hW.2 4 _
        have lt21 : lf1 < A 4 (ln1).toNat := LT_at (LT_ext (((hF7.1 3 rfl).trans (hFx.1 3 rfl))) (((hF7.2 3 rfl).trans (hFx.2 3 rfl))) (((hF7.2 4 rfl).trans (hFx.2 4 rfl))) i_LT) (show G2 3 = li from ((hF7.1 3 rfl).trans ((hFx.1 3 rfl).trans (e_li)))) (show A3 3 (ln1).toNat = lf1 from (congrFun (hF7.2 3 rfl) _).trans (ex_lf1)) (show A3 4 (ln1).toNat = A 4 (ln1).toNat from (congrFun ((hF7.2 4 rfl).trans (hFx.2 4 rfl)) _)) (by omega) (by omega)
        refine jx_if_eq (pc' := 14) (tg := 98) rfl rfl rfl (by decide) (by decide) (fun h22 => ?_) (fun h22 => ?_)
        · have _q := h22
          exact absurd h22 (by omega)
        · have _q := h22
          refine jx_ld (pc' := 16) (l' := L) (st' := [.int (i32 (many))]) rfl (jl_iload gL_6) ?_
          refine jx_ld (pc' := 18) (l' := L) (st' := [.int (i32 (mo)), .int (i32 (many))]) rfl (jl_iload gL_4) ?_
          refine jx_icmp_ne (pc' := 21) (tg := 46) rfl rfl rfl (Int.le_trans (by decide : (-2147483648 : Int) ≤ -2147483648) rx_many.1) (Int.le_trans rx_many.2 (by decide : (2147483647 : Int) ≤ 2147483647)) (Int.le_trans (by decide : (-2147483648 : Int) ≤ -2147483648) h_mo.1) (Int.le_trans h_mo.2 (by decide : (2147483647 : Int) ≤ 2147483647)) (fun h23 => ?_) (fun h23 => ?_)
          · have _q := h23
            refine jx_ld (pc' := 47) (l' := L) (st' := [.ref 66]) rfl (jl_aloadn gL_0) ?_
            refine jx_ld (pc' := 48) (l' := L) (st' := [.int (i32 (lv)), .ref 66]) rfl (jl_iloadn gL_2) ?_
            refine jx_ar (pc' := 49) (st' := [.int (i32 (1)), .int (i32 (lv)), .ref 66]) rfl rfl rfl rfl ?_
            refine jx_add (pc' := 50) rfl rfl ?_
            refine jx_vr (pc' := 53) (as := [.int (i32 ((lv + 1)))]) (st := []) rfl rfl rfl rfl ⟨rfl, rfl, Nat.le_of_ble_eq_true rfl⟩ rfl rfl (hP (dd := d) (hd := by omega) (hW := hW6) (lv := (lv + 1)) (at0 := at1) (ln := ln1) (e_ln := show G2 9 = ln1 from ((hF7.1 9 rfl).trans (ex_ln1))) (li := li) (e_li := show G2 3 = li from ((hF7.1 3 rfl).trans ((hFx.1 3 rfl).trans (e_li)))) (fk := fk2_5) (e_fk := show G2 16 = fk2_5 from (e9)) (nd := nd1) (e_nd := show G2 31 = nd1 from ((hF7.1 31 rfl).trans (ex_nd1))) (sy := sy1) (e_sy := show G2 19 = sy1 from ((hF7.1 19 rfl).trans (ex_sy1))) (na := na1) (e_na := show G2 28 = na1 from ((hF7.1 28 rfl).trans (ex_na1))) (vi := vi1) (e_vi := show G2 29 = vi1 from ((hF7.1 29 rfl).trans (ex_vi1))) (lf := lf1) (e_lf := show A3 3 (ln1).toNat = lf1 from (congrFun (hF7.2 3 rfl) _).trans (ex_lf1)) (ac := at1) (e_ac := show G2 10 = at1 from ((hF7.1 10 rfl).trans (ex_at1))) (i_LT := (LT_ext (((hF7.1 3 rfl).trans (hFx.1 3 rfl))) (((hF7.2 3 rfl).trans (hFx.2 3 rfl))) (((hF7.2 4 rfl).trans (hFx.2 4 rfl))) i_LT)) (h_lv := ⟨(by omega), (by omega)⟩)  (p_0 := by omega) (p_1 := by omega) (p_2 := by omega) (p_3 := by omega) (p_4 := by omega) (p_5 := by omega) (p_6 := by omega) (p_7 := by omega) (p_8 := by omega) (p_9 := by omega)) (fun o V' hq => ?_)
            obtain ⟨G24, A25, r26, ln2_27, at2_28, fk2_29, nd2_30, sy2_31, na2_32, vi2_33, lf2_34, rfl, rfl, hW35, hF36, hQ37, b38, e39, e40, e41, e42, e43, e44, e45, e46, p47, p48, p49, p50, p51, p52, p53, p54, p55, q56⟩ := hq
            have hF57 := Fr_tr hF11 hF36 (Fr_sub (by decide)) (Fr_sub (by decide))
            have hP58 := Pf_tr hP12 hQ37 (by omega)
            have bln2_27 : (0 : Int) ≤ ln2_27 ∧ ln2_27 ≤ 3000 := e39 ▸ hW35.1 9
            have bat2_28 : (0 : Int) ≤ at2_28 ∧ at2_28 ≤ 3002 := e40 ▸ hW35.1 10
            have bfk2_29 : (0 : Int) ≤ fk2_29 ∧ fk2_29 ≤ 6 := e41 ▸ hW35.1 16
            have bnd2_30 : (0 : Int) ≤ nd2_30 ∧ nd2_30 ≤ 6999 := e42 ▸ hW35.1 31
            have bsy2_31 : (0 : Int) ≤ sy2_31 ∧ sy2_31 ≤ 202 := e43 ▸ hW35.1 19
            have bna2_32 : (0 : Int) ≤ na2_32 ∧ na2_32 ≤ 200 := e44 ▸ hW35.1 28
            have bvi2_33 : (0 : Int) ≤ vi2_33 ∧ vi2_33 ≤ 202 := e45 ▸ hW35.1 29
            have blf2_34 : (0 : Int) ≤ lf2_34 ∧ lf2_34 ≤ 3000 := e46 ▸ hW35.2 3 _
            refine .inr ⟨_, rfl, ?_⟩
            rcases q56 with ⟨a59, a60⟩ | ⟨a61, a62, a63, a64, a65, a66⟩
            · have _q : True := trivial
              refine jx_ld (pc' := 55) (l' := jSto1 L 7 (.int (i32 (r26)))) (st' := []) rfl rfl ?_
              obtain ⟨L67, eL67⟩ : ∃ q, q = jSto1 L 7 (.int (i32 (r26))) := ⟨_, rfl⟩
              rw [← eL67]
              have gL67_0 : jGet L67 0 = some (.ref 66) := eL67 ▸ jg_ne (by decide) gL_0 rfl
              have gL67_1 : jGet L67 1 = some (.int (i32 (n))) := eL67 ▸ jg_ne (by decide) gL_1 rfl
              have gL67_2 : jGet L67 2 = some (.int (i32 (lv))) := eL67 ▸ jg_ne (by decide) gL_2 rfl
              have gL67_3 : jGet L67 3 = some (.int (i32 (least))) := eL67 ▸ jg_ne (by decide) gL_3 rfl
              have gL67_4 : jGet L67 4 = some (.int (i32 (mo))) := eL67 ▸ jg_ne (by decide) gL_4 rfl
              have gL67_5 : jGet L67 5 = some (.int (i32 (last))) := eL67 ▸ jg_ne (by decide) gL_5 rfl
              have gL67_6 : jGet L67 6 = some (.int (i32 (many))) := eL67 ▸ jg_ne (by decide) gL_6 rfl
              have gL67_7 : jGet L67 7 = some (.int (i32 (r26))) := eL67 ▸ jg_eq
              refine jx_ld (pc' := 56) (l' := L67) (st' := [.ref 66]) rfl (jl_aloadn gL67_0) ?_
              refine jx_vr (pc' := 59) (as := []) (st := []) rfl rfl rfl rfl ⟨rfl, rfl, Nat.le_of_ble_eq_true rfl⟩ rfl rfl (c_bad (dd := d) (hd := by omega) (hW := hW35)  (fk := fk2_29) (e_fk := show G24 16 = fk2_29 from (e41))    ) (fun o V' hq => ?_)
              obtain ⟨r68, rfl, rfl, b69, q70⟩ := hq
              refine .inr ⟨_, rfl, ?_⟩
              rcases q70 with ⟨rfl, a71⟩ | ⟨rfl, a72⟩
              · have _q : True := trivial
                refine jx_if_eq (pc' := 62) (tg := 63) rfl rfl rfl (by decide) (by decide) (fun h73 => ?_) (fun h73 => ?_)
                · have _q := h73
                  exact absurd h73 (by omega)
                · have _q := h73
                  refine jx_rt (v := none) rfl rfl rfl rfl rfl rfl ?_
                  exact ⟨_, _, ln2_27, at2_28, fk2_29, nd2_30, sy2_31, na2_32, vi2_33, lf2_34, rfl, rfl, hW35, hF57, hP58, (e39), (e40), (e41), (e42), (e43), (e44), (e45), (e46), by omega, by omega, by omega, by omega, by omega, by omega, by omega, by first | exact Or.inl (⟨by omega, by omega⟩) | exact Or.inr ((⟨by omega, by omega, by omega⟩))⟩
              · have _q : True := trivial
                exfalso
                omega
            · have _q : True := trivial
              refine jx_ld (pc' := 55) (l' := jSto1 L 7 (.int (i32 (r26)))) (st' := []) rfl rfl ?_
              obtain ⟨L74, eL74⟩ : ∃ q, q = jSto1 L 7 (.int (i32 (r26))) := ⟨_, rfl⟩
              rw [← eL74]
              have gL74_0 : jGet L74 0 = some (.ref 66) := eL74 ▸ jg_ne (by decide) gL_0 rfl
              have gL74_1 : jGet L74 1 = some (.int (i32 (n))) := eL74 ▸ jg_ne (by decide) gL_1 rfl
              have gL74_2 : jGet L74 2 = some (.int (i32 (lv))) := eL74 ▸ jg_ne (by decide) gL_2 rfl
              have gL74_3 : jGet L74 3 = some (.int (i32 (least))) := eL74 ▸ jg_ne (by decide) gL_3 rfl
              have gL74_4 : jGet L74 4 = some (.int (i32 (mo))) := eL74 ▸ jg_ne (by decide) gL_4 rfl
              have gL74_5 : jGet L74 5 = some (.int (i32 (last))) := eL74 ▸ jg_ne (by decide) gL_5 rfl
              have gL74_6 : jGet L74 6 = some (.int (i32 (many))) := eL74 ▸ jg_ne (by decide) gL_6 rfl
              have gL74_7 : jGet L74 7 = some (.int (i32 (r26))) := eL74 ▸ jg_eq
              refine jx_ld (pc' := 56) (l' := L74) (st' := [.ref 66]) rfl (jl_aloadn gL74_0) ?_
              refine jx_vr (pc' := 59) (as := []) (st := []) rfl rfl rfl rfl ⟨rfl, rfl, Nat.le_of_ble_eq_true rfl⟩ rfl rfl (c_bad (dd := d) (hd := by omega) (hW := hW35)  (fk := fk2_29) (e_fk := show G24 16 = fk2_29 from (e41))    ) (fun o V' hq => ?_)
              obtain ⟨r75, rfl, rfl, b76, q77⟩ := hq
              refine .inr ⟨_, rfl, ?_⟩
              rcases q77 with ⟨rfl, a78⟩ | ⟨rfl, a79⟩
              · have _q : True := trivial
                exfalso
                omega
              · have _q : True := trivial
                refine jx_if_eq (pc' := 62) (tg := 63) rfl rfl rfl (by decide) (by decide) (fun h80 => ?_) (fun h80 => ?_)
                · have _q := h80
                  refine jx_ld (pc' := 65) (l' := L74) (st' := [.int (i32 (last))]) rfl (jl_iload gL74_5) ?_
                  refine jx_if_ne (pc' := 68) (tg := 79) rfl rfl rfl (Int.le_trans (by decide : (-2147483648 : Int) ≤ -2147483648) rx_last.1) (Int.le_trans rx_last.2 (by decide : (2147483647 : Int) ≤ 2147483647)) (fun h81 => ?_) (fun h81 => ?_)
                  · have _q := h81
                    refine jx_ld (pc' := 80) (l' := L74) (st' := [.ref 66]) rfl (jl_aloadn gL74_0) ?_
                    refine jr_get (pc' := 83) (i := 39) (v := .ref 89) rfl rfl (by decide) rfl rfl ?_
                    refine jx_ld (pc' := 85) (l' := L74) (st' := [.int (i32 (last)), .ref 89]) rfl (jl_iload gL74_5) ?_
                    refine jx_ld (pc' := 87) (l' := L74) (st' := [.int (i32 (r26)), .int (i32 (last)), .ref 89]) rfl (jl_iload gL74_7) ?_
                    refine jr_st (pc' := 88) (i := 22) (m := 7000) (z := last) (y := r26) rfl (by decide) rfl (by decide) (by omega) (by omega) rfl ?_
                    have hW83 : Wk G24 (uA A25 22 (last).toNat (r26)) := Wk_a hW35 (show (-2147483648 : Int) ≤ r26 by omega) (show r26 ≤ (2147483647 : Int) by omega)
                    have hF84 := Fr_a (z := r26) (k := 22) (n := (last).toNat) hF57 (by decide)
                    obtain ⟨A82, eA82⟩ : ∃ q, q = uA A25 22 (last).toNat (r26) := ⟨_, rfl⟩
                    rw [← eA82]
                    rw [← eA82] at hW83 hF84
                    have q85 : A82 22 (last).toNat = r26 := by rw [eA82]; exact uA_eq
                    have hP86 : Pf zz A A82 := eA82 ▸ Pf_a hP58 (z := last) (by omega) (by omega)
                    refine jx_ld (pc' := 90) (l' := L74) (st' := [.int (i32 (r26))]) rfl (jl_iload gL74_7) ?_
                    refine jx_ld (pc' := 92) (l' := jSto1 L74 5 (.int (i32 (r26)))) (st' := []) rfl rfl ?_
                    obtain ⟨L87, eL87⟩ : ∃ q, q = jSto1 L74 5 (.int (i32 (r26))) := ⟨_, rfl⟩
                    rw [← eL87]
                    have gL87_0 : jGet L87 0 = some (.ref 66) := eL87 ▸ jg_ne (by decide) gL74_0 rfl
                    have gL87_1 : jGet L87 1 = some (.int (i32 (n))) := eL87 ▸ jg_ne (by decide) gL74_1 rfl
                    have gL87_2 : jGet L87 2 = some (.int (i32 (lv))) := eL87 ▸ jg_ne (by decide) gL74_2 rfl
                    have gL87_3 : jGet L87 3 = some (.int (i32 (least))) := eL87 ▸ jg_ne (by decide) gL74_3 rfl
                    have gL87_4 : jGet L87 4 = some (.int (i32 (mo))) := eL87 ▸ jg_ne (by decide) gL74_4 rfl
                    have gL87_6 : jGet L87 6 = some (.int (i32 (many))) := eL87 ▸ jg_ne (by decide) gL74_6 rfl
                    have gL87_7 : jGet L87 7 = some (.int (i32 (r26))) := eL87 ▸ jg_ne (by decide) gL74_7 rfl
                    have gL87_5 : jGet L87 5 = some (.int (i32 (r26))) := eL87 ▸ jg_eq
                    refine jx_inc (pc' := 95) (l' := jSto1 L87 6 (.int (i32 ((many + (1)))))) (x := many) rfl gL87_6 (by decide) rfl rfl ?_
                    obtain ⟨L88, eL88⟩ : ∃ q, q = jSto1 L87 6 (.int (i32 ((many + (1))))) := ⟨_, rfl⟩
                    rw [← eL88]
                    have gL88_0 : jGet L88 0 = some (.ref 66) := eL88 ▸ jg_ne (by decide) gL87_0 rfl
                    have gL88_1 : jGet L88 1 = some (.int (i32 (n))) := eL88 ▸ jg_ne (by decide) gL87_1 rfl
                    have gL88_2 : jGet L88 2 = some (.int (i32 (lv))) := eL88 ▸ jg_ne (by decide) gL87_2 rfl
                    have gL88_3 : jGet L88 3 = some (.int (i32 (least))) := eL88 ▸ jg_ne (by decide) gL87_3 rfl
                    have gL88_4 : jGet L88 4 = some (.int (i32 (mo))) := eL88 ▸ jg_ne (by decide) gL87_4 rfl
                    have gL88_7 : jGet L88 7 = some (.int (i32 (r26))) := eL88 ▸ jg_ne (by decide) gL87_7 rfl
                    have gL88_5 : jGet L88 5 = some (.int (i32 (r26))) := eL88 ▸ jg_ne (by decide) gL87_5 rfl
                    have gL88_6 : jGet L88 6 = some (.int (i32 ((many + (1))))) := eL88 ▸ jg_eq
                    refine jx_go (tg := 6) rfl rfl ?_
                    exact ih6 _ (by omega) L88 G24 A82 (r26) ((many + (1))) (ln2_27) (at2_28) (fk2_29) (nd2_30) (sy2_31) (na2_32) (vi2_33) (lf2_34) rfl gL88_0 gL88_1 gL88_2 gL88_3 gL88_4 gL88_5 gL88_6 hW83 hF84 hP86 ((e39)) ((e40)) ((e41)) ((e42)) ((e43)) ((e44)) ((e45)) ((congrFun ((congrFun eA82 3).trans (uA_ne (by decide))) _).trans (e46)) (by omega) (by omega) (by omega) (by omega) (by omega) (by omega) (by omega) (by omega) (by omega) (by omega) (by omega) (by omega) (by omega) (by omega) (by omega)
                  · have _q := h81
                    refine jx_ld (pc' := 69) (l' := L74) (st' := [.ref 66]) rfl (jl_aloadn gL74_0) ?_
                    refine jr_get (pc' := 72) (i := 38) (v := .ref 88) rfl rfl (by decide) rfl rfl ?_
                    refine jx_ld (pc' := 73) (l' := L74) (st' := [.int (i32 (n)), .ref 88]) rfl (jl_iloadn gL74_1) ?_
                    refine jx_ld (pc' := 75) (l' := L74) (st' := [.int (i32 (r26)), .int (i32 (n)), .ref 88]) rfl (jl_iload gL74_7) ?_
                    refine jr_st (pc' := 76) (i := 21) (m := 7000) (z := n) (y := r26) rfl (by decide) rfl (by decide) (by omega) (by omega) rfl ?_
                    have hW90 : Wk G24 (uA A25 21 (n).toNat (r26)) := Wk_a hW35 (show (-2147483648 : Int) ≤ r26 by omega) (show r26 ≤ (2147483647 : Int) by omega)
                    have hF91 := Fr_a (z := r26) (k := 21) (n := (n).toNat) hF57 (by decide)
                    obtain ⟨A89, eA89⟩ : ∃ q, q = uA A25 21 (n).toNat (r26) := ⟨_, rfl⟩
                    rw [← eA89]
                    rw [← eA89] at hW90 hF91
                    have q92 : A89 21 (n).toNat = r26 := by rw [eA89]; exact uA_eq
                    have hP93 : Pf zz A A89 := eA89 ▸ Pf_a hP58 (z := n) (by omega) (by omega)
                    refine jx_go (tg := 88) rfl rfl ?_
                    refine jx_ld (pc' := 90) (l' := L74) (st' := [.int (i32 (r26))]) rfl (jl_iload gL74_7) ?_
                    refine jx_ld (pc' := 92) (l' := jSto1 L74 5 (.int (i32 (r26)))) (st' := []) rfl rfl ?_
                    obtain ⟨L94, eL94⟩ : ∃ q, q = jSto1 L74 5 (.int (i32 (r26))) := ⟨_, rfl⟩
                    rw [← eL94]
                    have gL94_0 : jGet L94 0 = some (.ref 66) := eL94 ▸ jg_ne (by decide) gL74_0 rfl
                    have gL94_1 : jGet L94 1 = some (.int (i32 (n))) := eL94 ▸ jg_ne (by decide) gL74_1 rfl
                    have gL94_2 : jGet L94 2 = some (.int (i32 (lv))) := eL94 ▸ jg_ne (by decide) gL74_2 rfl
                    have gL94_3 : jGet L94 3 = some (.int (i32 (least))) := eL94 ▸ jg_ne (by decide) gL74_3 rfl
                    have gL94_4 : jGet L94 4 = some (.int (i32 (mo))) := eL94 ▸ jg_ne (by decide) gL74_4 rfl
                    have gL94_6 : jGet L94 6 = some (.int (i32 (many))) := eL94 ▸ jg_ne (by decide) gL74_6 rfl
                    have gL94_7 : jGet L94 7 = some (.int (i32 (r26))) := eL94 ▸ jg_ne (by decide) gL74_7 rfl
                    have gL94_5 : jGet L94 5 = some (.int (i32 (r26))) := eL94 ▸ jg_eq
                    refine jx_inc (pc' := 95) (l' := jSto1 L94 6 (.int (i32 ((many + (1)))))) (x := many) rfl gL94_6 (by decide) rfl rfl ?_
                    obtain ⟨L95, eL95⟩ : ∃ q, q = jSto1 L94 6 (.int (i32 ((many + (1))))) := ⟨_, rfl⟩
                    rw [← eL95]
                    have gL95_0 : jGet L95 0 = some (.ref 66) := eL95 ▸ jg_ne (by decide) gL94_0 rfl
                    have gL95_1 : jGet L95 1 = some (.int (i32 (n))) := eL95 ▸ jg_ne (by decide) gL94_1 rfl
                    have gL95_2 : jGet L95 2 = some (.int (i32 (lv))) := eL95 ▸ jg_ne (by decide) gL94_2 rfl
                    have gL95_3 : jGet L95 3 = some (.int (i32 (least))) := eL95 ▸ jg_ne (by decide) gL94_3 rfl
                    have gL95_4 : jGet L95 4 = some (.int (i32 (mo))) := eL95 ▸ jg_ne (by decide) gL94_4 rfl
                    have gL95_7 : jGet L95 7 = some (.int (i32 (r26))) := eL95 ▸ jg_ne (by decide) gL94_7 rfl
                    have gL95_5 : jGet L95 5 = some (.int (i32 (r26))) := eL95 ▸ jg_ne (by decide) gL94_5 rfl
                    have gL95_6 : jGet L95 6 = some (.int (i32 ((many + (1))))) := eL95 ▸ jg_eq
                    refine jx_go (tg := 6) rfl rfl ?_
                    exact ih6 _ (by omega) L95 G24 A89 (r26) ((many + (1))) (ln2_27) (at2_28) (fk2_29) (nd2_30) (sy2_31) (na2_32) (vi2_33) (lf2_34) rfl gL95_0 gL95_1 gL95_2 gL95_3 gL95_4 gL95_5 gL95_6 hW90 hF91 hP93 ((e39)) ((e40)) ((e41)) ((e42)) ((e43)) ((e44)) ((e45)) ((congrFun ((congrFun eA89 3).trans (uA_ne (by decide))) _).trans (e46)) (by omega) (by omega) (by omega) (by omega) (by omega) (by omega) (by omega) (by omega) (by omega) (by omega) (by omega) (by omega) (by omega) (by omega) (by omega)
                · have _q := h80
                  exact absurd h80 (by omega)
          · have _q := h23
            refine jx_ld (pc' := 22) (l' := L) (st' := [.ref 66]) rfl (jl_aloadn gL_0) ?_
            refine jx_ar (pc' := 23) (st' := [.int (i32 (1)), .ref 66]) rfl rfl rfl rfl ?_
            refine jx_ld (pc' := 24) (l' := L) (st' := [.ref 66, .int (i32 (1)), .ref 66]) rfl (jl_aloadn gL_0) ?_
            refine jr_get (pc' := 27) (i := 6) (v := .ref 70) rfl rfl (by decide) rfl rfl ?_
            refine jx_ld (pc' := 28) (l' := L) (st' := [.ref 66, .ref 70, .int (i32 (1)), .ref 66]) rfl (jl_aloadn gL_0) ?_
            refine jr_get (pc' := 31) (i := 9) (v := .int (i32 (ln1))) rfl rfl (by decide) (rFv_eq (by decide) (show G2 9 = ln1 from ((hF7.1 9 rfl).trans (ex_ln1)))) rfl ?_
            refine jr_ldv (pc' := 32) (i := 3) (m := 3001) (z := ln1) (y := lf1) rfl (by decide) rfl (by decide) (Int.le_trans (by decide : (0 : Int) ≤ 0) b_ln1.1) (Int.lt_of_le_of_lt b_ln1.2 (by decide : (3000 : Int) < ((3001 : Nat) : Int))) rfl (show A3 3 (ln1).toNat = lf1 from (congrFun (hF7.2 3 rfl) _).trans (ex_lf1)) ?_
            refine jx_ld (pc' := 33) (l' := L) (st' := [.ref 66, .int (i32 (lf1)), .int (i32 (1)), .ref 66]) rfl (jl_aloadn gL_0) ?_
            refine jr_get (pc' := 36) (i := 5) (v := .ref 69) rfl rfl (by decide) rfl rfl ?_
            refine jx_ld (pc' := 37) (l' := L) (st' := [.ref 66, .ref 69, .int (i32 (lf1)), .int (i32 (1)), .ref 66]) rfl (jl_aloadn gL_0) ?_
            refine jr_get (pc' := 40) (i := 9) (v := .int (i32 (ln1))) rfl rfl (by decide) (rFv_eq (by decide) (show G2 9 = ln1 from ((hF7.1 9 rfl).trans (ex_ln1)))) rfl ?_
            have b96 : (0 : Int) ≤ A 2 (ln1).toNat ∧ A 2 (ln1).toNat ≤ 3000 := hW.2 2 _
            refine jr_ldv (pc' := 41) (i := 2) (m := 3001) (z := ln1) (y := A 2 (ln1).toNat) rfl (by decide) rfl (by decide) (Int.le_trans (by decide : (0 : Int) ≤ 0) b_ln1.1) (Int.lt_of_le_of_lt b_ln1.2 (by decide : (3000 : Int) < ((3001 : Nat) : Int))) rfl (show A3 2 (ln1).toNat = A 2 (ln1).toNat from (congrFun ((hF7.2 2 rfl).trans (hFx.2 2 rfl)) _)) ?_
            refine jx_sub (pc' := 42) rfl rfl ?_
            refine jx_vr (pc' := 45) (as := [.int (i32 (1)), .int (i32 ((lf1 - A 2 (ln1).toNat)))]) (st := []) rfl rfl rfl rfl ⟨rfl, rfl, Nat.le_of_ble_eq_true rfl⟩ rfl rfl (c_fail (dd := d) (hd := by omega) (hW := hW6) (kind := 1) (place := (lf1 - A 2 (ln1).toNat)) (fk := fk2_5) (e_fk := show G2 16 = fk2_5 from (e9))  (h_kind := ⟨(by decide), (by decide)⟩) (h_place := ⟨(by omega), (by omega)⟩)  (p_0 := by omega) (p_1 := by omega)) (fun o V' hq => ?_)
            obtain ⟨G97, A98, fk2_99, rfl, rfl, hW100, hF101, e102, p103, -⟩ := hq
            have hF105 := Fr_tr hF11 hF101 (Fr_sub (by decide)) (Fr_sub (by decide))
            have hP106 := Pf_f hP12 hF101 (by decide)
            have bfk2_99 : (0 : Int) ≤ fk2_99 ∧ fk2_99 ≤ 6 := e102 ▸ hW100.1 16
            refine .inl ⟨rfl, ?_⟩
            refine jx_rt (v := none) rfl rfl rfl rfl rfl rfl ?_
            exact ⟨_, _, ln1, at1, fk2_99, nd1, sy1, na1, vi1, lf1, rfl, rfl, hW100, hF105, hP106, ((hF101.1 9 rfl).trans ((hF7.1 9 rfl).trans (ex_ln1))), ((hF101.1 10 rfl).trans ((hF7.1 10 rfl).trans (ex_at1))), (e102), ((hF101.1 31 rfl).trans ((hF7.1 31 rfl).trans (ex_nd1))), ((hF101.1 19 rfl).trans ((hF7.1 19 rfl).trans (ex_sy1))), ((hF101.1 28 rfl).trans ((hF7.1 28 rfl).trans (ex_na1))), ((hF101.1 29 rfl).trans ((hF7.1 29 rfl).trans (ex_vi1))), (congrFun ((hF101.2 3 rfl).trans (hF7.2 3 rfl)) _).trans (ex_lf1), by omega, by omega, by omega, by omega, by omega, by omega, by omega, by first | exact Or.inl (⟨by omega, by omega⟩) | exact Or.inr ((⟨by omega, by omega, by omega⟩))⟩
      · have _q : True := trivial
        refine jx_if_eq (pc' := 14) (tg := 98) rfl rfl rfl (by decide) (by decide) (fun h107 => ?_) (fun h107 => ?_)
        · have _q := h107
          refine jx_ld (pc' := 99) (l' := L) (st' := [.ref 66]) rfl (jl_aloadn gL_0) ?_
          refine jx_vr (pc' := 102) (as := []) (st := []) rfl rfl rfl rfl ⟨rfl, rfl, Nat.le_of_ble_eq_true rfl⟩ rfl rfl (c_bad (dd := d) (hd := by omega) (hW := hW6)  (fk := fk2_5) (e_fk := show G2 16 = fk2_5 from (e9))    ) (fun o V' hq => ?_)
          obtain ⟨r108, rfl, rfl, b109, q110⟩ := hq
          refine .inr ⟨_, rfl, ?_⟩
          rcases q110 with ⟨rfl, a111⟩ | ⟨rfl, a112⟩
          · have _q : True := trivial
            refine jx_if_ne (pc' := 105) (tg := 119) rfl rfl rfl (by decide) (by decide) (fun h113 => ?_) (fun h113 => ?_)
            · have _q := h113
              refine jx_ld (pc' := 120) (l' := L) (st' := [.ref 66]) rfl (jl_aloadn gL_0) ?_
              refine jr_get (pc' := 123) (i := 35) (v := .ref 85) rfl rfl (by decide) rfl rfl ?_
              refine jx_ld (pc' := 124) (l' := L) (st' := [.int (i32 (n)), .ref 85]) rfl (jl_iloadn gL_1) ?_
              refine jx_ld (pc' := 126) (l' := L) (st' := [.int (i32 (many)), .int (i32 (n)), .ref 85]) rfl (jl_iload gL_6) ?_
              refine jr_st (pc' := 127) (i := 18) (m := 7000) (z := n) (y := many) rfl (by decide) rfl (by decide) (by omega) (by omega) rfl ?_
              have hW115 : Wk G2 (uA A3 18 (n).toNat (many)) := Wk_a hW6 (show (-2147483648 : Int) ≤ many by omega) (show many ≤ (2147483647 : Int) by omega)
              have hF116 := Fr_a (z := many) (k := 18) (n := (n).toNat) hF11 (by decide)
              obtain ⟨A114, eA114⟩ : ∃ q, q = uA A3 18 (n).toNat (many) := ⟨_, rfl⟩
              rw [← eA114]
              rw [← eA114] at hW115 hF116
              have q117 : A114 18 (n).toNat = many := by rw [eA114]; exact uA_eq
              have hP118 : Pf zz A A114 := eA114 ▸ Pf_a hP12 (z := n) (by omega) (by omega)
              refine jx_rt (v := none) rfl rfl rfl rfl rfl rfl ?_
              exact ⟨_, _, ln1, at1, fk2_5, nd1, sy1, na1, vi1, lf1, rfl, rfl, hW115, hF116, hP118, ((hF7.1 9 rfl).trans (ex_ln1)), ((hF7.1 10 rfl).trans (ex_at1)), (e9), ((hF7.1 31 rfl).trans (ex_nd1)), ((hF7.1 19 rfl).trans (ex_sy1)), ((hF7.1 28 rfl).trans (ex_na1)), ((hF7.1 29 rfl).trans (ex_vi1)), (congrFun (((congrFun eA114 3).trans (uA_ne (by decide))).trans (hF7.2 3 rfl)) _).trans (ex_lf1), by omega, by omega, by omega, by omega, by omega, by omega, by omega, by first | exact Or.inl (⟨by omega, by omega⟩) | exact Or.inr ((⟨by omega, by omega, by omega⟩))⟩
            · have _q := h113
              exact absurd h113 (by omega)
          · have _q : True := trivial
            exfalso
            omega
        · have _q := h107
          exact absurd h107 (by omega)
      · have _q : True := trivial
        refine jx_if_eq (pc' := 14) (tg := 98) rfl rfl rfl (by decide) (by decide) (fun h119 => ?_) (fun h119 => ?_)
        · have _q := h119
          refine jx_ld (pc' := 99) (l' := L) (st' := [.ref 66]) rfl (jl_aloadn gL_0) ?_
          refine jx_vr (pc' := 102) (as := []) (st := []) rfl rfl rfl rfl ⟨rfl, rfl, Nat.le_of_ble_eq_true rfl⟩ rfl rfl (c_bad (dd := d) (hd := by omega) (hW := hW6)  (fk := fk2_5) (e_fk := show G2 16 = fk2_5 from (e9))    ) (fun o V' hq => ?_)
          obtain ⟨r120, rfl, rfl, b121, q122⟩ := hq
          refine .inr ⟨_, rfl, ?_⟩
          rcases q122 with ⟨rfl, a123⟩ | ⟨rfl, a124⟩
          · have _q : True := trivial
            exfalso
            omega
          · have _q : True := trivial
            refine jx_if_ne (pc' := 105) (tg := 119) rfl rfl rfl (by decide) (by decide) (fun h125 => ?_) (fun h125 => ?_)
            · have _q := h125
              exact absurd h125 (by omega)
            · have _q := h125
              refine jx_ld (pc' := 107) (l' := L) (st' := [.int (i32 (many))]) rfl (jl_iload gL_6) ?_
              refine jx_ld (pc' := 108) (l' := L) (st' := [.int (i32 (least)), .int (i32 (many))]) rfl (jl_iloadn gL_3) ?_
              refine jx_icmp_ge (pc' := 111) (tg := 119) rfl rfl rfl (Int.le_trans (by decide : (-2147483648 : Int) ≤ -2147483648) rx_many.1) (Int.le_trans rx_many.2 (by decide : (2147483647 : Int) ≤ 2147483647)) (Int.le_trans (by decide : (-2147483648 : Int) ≤ -2147483648) h_least.1) (Int.le_trans h_least.2 (by decide : (2147483647 : Int) ≤ 2147483647)) (fun h126 => ?_) (fun h126 => ?_)
              · have _q := h126
                refine jx_ld (pc' := 120) (l' := L) (st' := [.ref 66]) rfl (jl_aloadn gL_0) ?_
                refine jr_get (pc' := 123) (i := 35) (v := .ref 85) rfl rfl (by decide) rfl rfl ?_
                refine jx_ld (pc' := 124) (l' := L) (st' := [.int (i32 (n)), .ref 85]) rfl (jl_iloadn gL_1) ?_
                refine jx_ld (pc' := 126) (l' := L) (st' := [.int (i32 (many)), .int (i32 (n)), .ref 85]) rfl (jl_iload gL_6) ?_
                refine jr_st (pc' := 127) (i := 18) (m := 7000) (z := n) (y := many) rfl (by decide) rfl (by decide) (by omega) (by omega) rfl ?_
                have hW128 : Wk G2 (uA A3 18 (n).toNat (many)) := Wk_a hW6 (show (-2147483648 : Int) ≤ many by omega) (show many ≤ (2147483647 : Int) by omega)
                have hF129 := Fr_a (z := many) (k := 18) (n := (n).toNat) hF11 (by decide)
                obtain ⟨A127, eA127⟩ : ∃ q, q = uA A3 18 (n).toNat (many) := ⟨_, rfl⟩
                rw [← eA127]
                rw [← eA127] at hW128 hF129
                have q130 : A127 18 (n).toNat = many := by rw [eA127]; exact uA_eq
                have hP131 : Pf zz A A127 := eA127 ▸ Pf_a hP12 (z := n) (by omega) (by omega)
                refine jx_rt (v := none) rfl rfl rfl rfl rfl rfl ?_
                exact ⟨_, _, ln1, at1, fk2_5, nd1, sy1, na1, vi1, lf1, rfl, rfl, hW128, hF129, hP131, ((hF7.1 9 rfl).trans (ex_ln1)), ((hF7.1 10 rfl).trans (ex_at1)), (e9), ((hF7.1 31 rfl).trans (ex_nd1)), ((hF7.1 19 rfl).trans (ex_sy1)), ((hF7.1 28 rfl).trans (ex_na1)), ((hF7.1 29 rfl).trans (ex_vi1)), (congrFun (((congrFun eA127 3).trans (uA_ne (by decide))).trans (hF7.2 3 rfl)) _).trans (ex_lf1), by omega, by omega, by omega, by omega, by omega, by omega, by omega, by first | exact Or.inl (⟨by omega, by omega⟩) | exact Or.inr ((⟨by omega, by omega, by omega⟩))⟩
              · have _q := h126
                refine jx_ld (pc' := 112) (l' := L) (st' := [.ref 66]) rfl (jl_aloadn gL_0) ?_
                refine jx_ld (pc' := 113) (l' := L) (st' := [.int (i32 (lv)), .ref 66]) rfl (jl_iloadn gL_2) ?_
                refine jx_ar (pc' := 114) (st' := [.int (i32 (1)), .int (i32 (lv)), .ref 66]) rfl rfl rfl rfl ?_
                refine jx_add (pc' := 115) rfl rfl ?_
                refine jx_vr (pc' := 118) (as := [.int (i32 ((lv + 1)))]) (st := []) rfl rfl rfl rfl ⟨rfl, rfl, Nat.le_of_ble_eq_true rfl⟩ rfl rfl (c_needLevel (dd := d) (hd := by omega) (hW := hW6) (lv := (lv + 1)) (ln := ln1) (e_ln := show G2 9 = ln1 from ((hF7.1 9 rfl).trans (ex_ln1))) (li := li) (e_li := show G2 3 = li from ((hF7.1 3 rfl).trans ((hFx.1 3 rfl).trans (e_li)))) (fk := fk2_5) (e_fk := show G2 16 = fk2_5 from (e9)) (ll := A 5 (ln1).toNat) (e_ll := show A3 5 (ln1).toNat = A 5 (ln1).toNat from (congrFun ((hF7.2 5 rfl).trans (hFx.2 5 rfl)) _))  (h_lv := ⟨(by omega), (by omega)⟩)  ) (fun o V' hq => ?_)
                obtain ⟨G132, A133, r134, fk2_135, rfl, rfl, hW136, hF137, b138, e139, q140⟩ := hq
                have hF141 := Fr_tr hF11 hF137 (Fr_sub (by decide)) (Fr_sub (by decide))
                have hP142 := Pf_f hP12 hF137 (by decide)
                have bfk2_135 : (0 : Int) ≤ fk2_135 ∧ fk2_135 ≤ 6 := e139 ▸ hW136.1 16
                refine .inr ⟨_, rfl, ?_⟩
                rcases q140 with ⟨rfl, a143, a144, a145, a146⟩ | ⟨rfl, a147⟩
                · have _q : True := trivial
                  have b148 : (0 : Int) ≤ A 4 (ln1).toNat ∧ A 4 (ln1).toNat ≤ 3000 := hW.2 4 _
                  have lt149 : lf1 < A 4 (ln1).toNat := LT_at (LT_ext (((hF137.1 3 rfl).trans ((hF7.1 3 rfl).trans (hFx.1 3 rfl)))) (((hF137.2 3 rfl).trans ((hF7.2 3 rfl).trans (hFx.2 3 rfl)))) (((hF137.2 4 rfl).trans ((hF7.2 4 rfl).trans (hFx.2 4 rfl)))) i_LT) (show G132 3 = li from ((hF137.1 3 rfl).trans ((hF7.1 3 rfl).trans ((hFx.1 3 rfl).trans (e_li))))) (show A133 3 (ln1).toNat = lf1 from (congrFun ((hF137.2 3 rfl).trans (hF7.2 3 rfl)) _).trans (ex_lf1)) (show A133 4 (ln1).toNat = A 4 (ln1).toNat from (congrFun ((hF137.2 4 rfl).trans ((hF7.2 4 rfl).trans (hFx.2 4 rfl))) _)) (by omega) (by omega)
                  refine jx_ar (pc' := 119) (st' := []) rfl rfl rfl rfl ?_
                  refine jx_ld (pc' := 120) (l' := L) (st' := [.ref 66]) rfl (jl_aloadn gL_0) ?_
                  refine jr_get (pc' := 123) (i := 35) (v := .ref 85) rfl rfl (by decide) rfl rfl ?_
                  refine jx_ld (pc' := 124) (l' := L) (st' := [.int (i32 (n)), .ref 85]) rfl (jl_iloadn gL_1) ?_
                  refine jx_ld (pc' := 126) (l' := L) (st' := [.int (i32 (many)), .int (i32 (n)), .ref 85]) rfl (jl_iload gL_6) ?_
                  refine jr_st (pc' := 127) (i := 18) (m := 7000) (z := n) (y := many) rfl (by decide) rfl (by decide) (by omega) (by omega) rfl ?_
                  have hW151 : Wk G132 (uA A133 18 (n).toNat (many)) := Wk_a hW136 (show (-2147483648 : Int) ≤ many by omega) (show many ≤ (2147483647 : Int) by omega)
                  have hF152 := Fr_a (z := many) (k := 18) (n := (n).toNat) hF141 (by decide)
                  obtain ⟨A150, eA150⟩ : ∃ q, q = uA A133 18 (n).toNat (many) := ⟨_, rfl⟩
                  rw [← eA150]
                  rw [← eA150] at hW151 hF152
                  have q153 : A150 18 (n).toNat = many := by rw [eA150]; exact uA_eq
                  have hP154 : Pf zz A A150 := eA150 ▸ Pf_a hP142 (z := n) (by omega) (by omega)
                  refine jx_rt (v := none) rfl rfl rfl rfl rfl rfl ?_
                  exact ⟨_, _, ln1, at1, fk2_135, nd1, sy1, na1, vi1, lf1, rfl, rfl, hW151, hF152, hP154, ((hF137.1 9 rfl).trans ((hF7.1 9 rfl).trans (ex_ln1))), ((hF137.1 10 rfl).trans ((hF7.1 10 rfl).trans (ex_at1))), (e139), ((hF137.1 31 rfl).trans ((hF7.1 31 rfl).trans (ex_nd1))), ((hF137.1 19 rfl).trans ((hF7.1 19 rfl).trans (ex_sy1))), ((hF137.1 28 rfl).trans ((hF7.1 28 rfl).trans (ex_na1))), ((hF137.1 29 rfl).trans ((hF7.1 29 rfl).trans (ex_vi1))), (congrFun (((congrFun eA150 3).trans (uA_ne (by decide))).trans ((hF137.2 3 rfl).trans (hF7.2 3 rfl))) _).trans (ex_lf1), by omega, by omega, by omega, by omega, by omega, by omega, by omega, by first | exact Or.inl (⟨by omega, by omega⟩) | exact Or.inr ((⟨by omega, by omega, by omega⟩))⟩
                · have _q : True := trivial
                  refine jx_ar (pc' := 119) (st' := []) rfl rfl rfl rfl ?_
                  refine jx_ld (pc' := 120) (l' := L) (st' := [.ref 66]) rfl (jl_aloadn gL_0) ?_
                  refine jr_get (pc' := 123) (i := 35) (v := .ref 85) rfl rfl (by decide) rfl rfl ?_
                  refine jx_ld (pc' := 124) (l' := L) (st' := [.int (i32 (n)), .ref 85]) rfl (jl_iloadn gL_1) ?_
                  refine jx_ld (pc' := 126) (l' := L) (st' := [.int (i32 (many)), .int (i32 (n)), .ref 85]) rfl (jl_iload gL_6) ?_
                  refine jr_st (pc' := 127) (i := 18) (m := 7000) (z := n) (y := many) rfl (by decide) rfl (by decide) (by omega) (by omega) rfl ?_
                  have hW156 : Wk G132 (uA A133 18 (n).toNat (many)) := Wk_a hW136 (show (-2147483648 : Int) ≤ many by omega) (show many ≤ (2147483647 : Int) by omega)
                  have hF157 := Fr_a (z := many) (k := 18) (n := (n).toNat) hF141 (by decide)
                  obtain ⟨A155, eA155⟩ : ∃ q, q = uA A133 18 (n).toNat (many) := ⟨_, rfl⟩
                  rw [← eA155]
                  rw [← eA155] at hW156 hF157
                  have q158 : A155 18 (n).toNat = many := by rw [eA155]; exact uA_eq
                  have hP159 : Pf zz A A155 := eA155 ▸ Pf_a hP142 (z := n) (by omega) (by omega)
                  refine jx_rt (v := none) rfl rfl rfl rfl rfl rfl ?_
                  exact ⟨_, _, ln1, at1, fk2_135, nd1, sy1, na1, vi1, lf1, rfl, rfl, hW156, hF157, hP159, ((hF137.1 9 rfl).trans ((hF7.1 9 rfl).trans (ex_ln1))), ((hF137.1 10 rfl).trans ((hF7.1 10 rfl).trans (ex_at1))), (e139), ((hF137.1 31 rfl).trans ((hF7.1 31 rfl).trans (ex_nd1))), ((hF137.1 19 rfl).trans ((hF7.1 19 rfl).trans (ex_sy1))), ((hF137.1 28 rfl).trans ((hF7.1 28 rfl).trans (ex_na1))), ((hF137.1 29 rfl).trans ((hF7.1 29 rfl).trans (ex_vi1))), (congrFun (((congrFun eA155 3).trans (uA_ne (by decide))).trans ((hF137.2 3 rfl).trans (hF7.2 3 rfl))) _).trans (ex_lf1), by omega, by omega, by omega, by omega, by omega, by omega, by omega, by first | exact Or.inl (⟨by omega, by omega⟩) | exact Or.inr ((⟨by omega, by omega, by omega⟩))⟩
        · have _q := h119
          exact absurd h119 (by omega)
  refine jx_ar (pc' := 1) (st' := [.int (i32 (0))]) rfl rfl rfl rfl ?_
  refine jx_ld (pc' := 3) (l' := jSto1 [(0, .ref 66), (1, .int (i32 (n))), (2, .int (i32 (lv))), (3, .int (i32 (least))), (4, .int (i32 (mo)))] 5 (.int (i32 (0)))) (st' := []) rfl rfl ?_
  obtain ⟨L160, eL160⟩ : ∃ q, q = jSto1 [(0, .ref 66), (1, .int (i32 (n))), (2, .int (i32 (lv))), (3, .int (i32 (least))), (4, .int (i32 (mo)))] 5 (.int (i32 (0))) := ⟨_, rfl⟩
  rw [← eL160]
  have gL160_0 : jGet L160 0 = some (.ref 66) := eL160 ▸ jg_ne (by decide) (rfl : jGet [(0, .ref 66), (1, .int (i32 (n))), (2, .int (i32 (lv))), (3, .int (i32 (least))), (4, .int (i32 (mo)))] 0 = some (.ref 66)) rfl
  have gL160_1 : jGet L160 1 = some (.int (i32 (n))) := eL160 ▸ jg_ne (by decide) (rfl : jGet [(0, .ref 66), (1, .int (i32 (n))), (2, .int (i32 (lv))), (3, .int (i32 (least))), (4, .int (i32 (mo)))] 1 = some (.int (i32 (n)))) rfl
  have gL160_2 : jGet L160 2 = some (.int (i32 (lv))) := eL160 ▸ jg_ne (by decide) (rfl : jGet [(0, .ref 66), (1, .int (i32 (n))), (2, .int (i32 (lv))), (3, .int (i32 (least))), (4, .int (i32 (mo)))] 2 = some (.int (i32 (lv)))) rfl
  have gL160_3 : jGet L160 3 = some (.int (i32 (least))) := eL160 ▸ jg_ne (by decide) (rfl : jGet [(0, .ref 66), (1, .int (i32 (n))), (2, .int (i32 (lv))), (3, .int (i32 (least))), (4, .int (i32 (mo)))] 3 = some (.int (i32 (least)))) rfl
  have gL160_4 : jGet L160 4 = some (.int (i32 (mo))) := eL160 ▸ jg_ne (by decide) (rfl : jGet [(0, .ref 66), (1, .int (i32 (n))), (2, .int (i32 (lv))), (3, .int (i32 (least))), (4, .int (i32 (mo)))] 4 = some (.int (i32 (mo)))) rfl
  have gL160_5 : jGet L160 5 = some (.int (i32 (0))) := eL160 ▸ jg_eq
  refine jx_ar (pc' := 4) (st' := [.int (i32 (0))]) rfl rfl rfl rfl ?_
  refine jx_ld (pc' := 6) (l' := jSto1 L160 6 (.int (i32 (0)))) (st' := []) rfl rfl ?_
  obtain ⟨L161, eL161⟩ : ∃ q, q = jSto1 L160 6 (.int (i32 (0))) := ⟨_, rfl⟩
  rw [← eL161]
  have gL161_0 : jGet L161 0 = some (.ref 66) := eL161 ▸ jg_ne (by decide) gL160_0 rfl
  have gL161_1 : jGet L161 1 = some (.int (i32 (n))) := eL161 ▸ jg_ne (by decide) gL160_1 rfl
  have gL161_2 : jGet L161 2 = some (.int (i32 (lv))) := eL161 ▸ jg_ne (by decide) gL160_2 rfl
  have gL161_3 : jGet L161 3 = some (.int (i32 (least))) := eL161 ▸ jg_ne (by decide) gL160_3 rfl
  have gL161_4 : jGet L161 4 = some (.int (i32 (mo))) := eL161 ▸ jg_ne (by decide) gL160_4 rfl
  have gL161_5 : jGet L161 5 = some (.int (i32 (0))) := eL161 ▸ jg_ne (by decide) gL160_5 rfl
  have gL161_6 : jGet L161 6 = some (.int (i32 (0))) := eL161 ▸ jg_eq
  exact at_6 _ L161 G A (0) (0) (ln) (at0) (fk) (nd) (sy) (na) (vi) (lf) rfl gL161_0 gL161_1 gL161_2 gL161_3 gL161_4 gL161_5 gL161_6 hW hF0 hP0 ((e_ln)) ((e_at0)) ((e_fk)) ((e_nd)) ((e_sy)) ((e_na)) ((e_vi)) ((e_lf)) (by omega) (by omega) (by omega) (by omega) (by omega) (by omega) (by omega) (by omega) (by omega) (by omega) (by omega) (by omega) (by omega) (by omega) (by omega)
set_option maxRecDepth 20000 in
set_option maxHeartbeats 4000000 in
theorem c_readChildren_f {X : jX} {zz : Int} {dd : Nat} {c0 c1 : jC} {G : Nat → Int} {A : Nat → Nat → Int} {T : jH} {n lv least mo : Int} {fk : Int} (hd : 3 ≤ dd) (hW : Wk G A) (e_fk : G 16 = fk) (h_n : (-2147483648 : Int) ≤ n ∧ n ≤ 2147483647) (h_lv : (-2147483648 : Int) ≤ lv ∧ lv ≤ 2147483647) (h_least : (-2147483648 : Int) ≤ least ∧ least ≤ 2147483647) (h_mo : (-2147483648 : Int) ≤ mo ∧ mo ≤ 2147483647) (p_0 : 0 ≤ n ∧ n ≤ 6998) (p_1 : 0 ≤ lv ∧ lv ≤ 40) (p_2 : 1 ≤ fk) (p_3 : zz ≤ n) : wk X dd 296 [.ref 66, .int (i32 n), .int (i32 lv), .int (i32 least), .int (i32 mo)] (rV c0 c1 G A T) (fun o V' => ∃ (G' : Nat → Int) (A' : Nat → Nat → Int) (fk2 : Int), V' = rV c0 c1 G' A' T ∧ o = .inl none ∧ Wk G' A' ∧ Fr [16, 17, 18] [18] G A G' A' ∧ Pf zz A A' ∧ G' 16 = fk2 ∧ (1 ≤ fk2) ∧ True) := by
  obtain ⟨d, rfl⟩ : ∃ d, dd = d + 1 := ⟨dd - 1, by omega⟩
  refine wk_of (e := jm296) rfl (Nat.le_of_ble_eq_true rfl) ?_
  show wj X d jm296 (0, [(0, .ref 66), (1, .int (i32 (n))), (2, .int (i32 (lv))), (3, .int (i32 (least))), (4, .int (i32 (mo)))], [], rV c0 c1 G A T) _
  have hF0 : Fr [16, 17, 18] [18] G A G A := Fr_rf
  have hP0 : Pf zz A A := Pf_rf
  have b_fk : (0 : Int) ≤ fk ∧ fk ≤ 6 := e_fk ▸ hW.1 16
  refine jx_ar (pc' := 1) (st' := [.int (i32 (0))]) rfl rfl rfl rfl ?_
  refine jx_ld (pc' := 3) (l' := jSto1 [(0, .ref 66), (1, .int (i32 (n))), (2, .int (i32 (lv))), (3, .int (i32 (least))), (4, .int (i32 (mo)))] 5 (.int (i32 (0)))) (st' := []) rfl rfl ?_
  obtain ⟨L1, eL1⟩ : ∃ q, q = jSto1 [(0, .ref 66), (1, .int (i32 (n))), (2, .int (i32 (lv))), (3, .int (i32 (least))), (4, .int (i32 (mo)))] 5 (.int (i32 (0))) := ⟨_, rfl⟩
  rw [← eL1]
  have gL1_0 : jGet L1 0 = some (.ref 66) := eL1 ▸ jg_ne (by decide) (rfl : jGet [(0, .ref 66), (1, .int (i32 (n))), (2, .int (i32 (lv))), (3, .int (i32 (least))), (4, .int (i32 (mo)))] 0 = some (.ref 66)) rfl
  have gL1_1 : jGet L1 1 = some (.int (i32 (n))) := eL1 ▸ jg_ne (by decide) (rfl : jGet [(0, .ref 66), (1, .int (i32 (n))), (2, .int (i32 (lv))), (3, .int (i32 (least))), (4, .int (i32 (mo)))] 1 = some (.int (i32 (n)))) rfl
  have gL1_2 : jGet L1 2 = some (.int (i32 (lv))) := eL1 ▸ jg_ne (by decide) (rfl : jGet [(0, .ref 66), (1, .int (i32 (n))), (2, .int (i32 (lv))), (3, .int (i32 (least))), (4, .int (i32 (mo)))] 2 = some (.int (i32 (lv)))) rfl
  have gL1_3 : jGet L1 3 = some (.int (i32 (least))) := eL1 ▸ jg_ne (by decide) (rfl : jGet [(0, .ref 66), (1, .int (i32 (n))), (2, .int (i32 (lv))), (3, .int (i32 (least))), (4, .int (i32 (mo)))] 3 = some (.int (i32 (least)))) rfl
  have gL1_4 : jGet L1 4 = some (.int (i32 (mo))) := eL1 ▸ jg_ne (by decide) (rfl : jGet [(0, .ref 66), (1, .int (i32 (n))), (2, .int (i32 (lv))), (3, .int (i32 (least))), (4, .int (i32 (mo)))] 4 = some (.int (i32 (mo)))) rfl
  have gL1_5 : jGet L1 5 = some (.int (i32 (0))) := eL1 ▸ jg_eq
  refine jx_ar (pc' := 4) (st' := [.int (i32 (0))]) rfl rfl rfl rfl ?_
  refine jx_ld (pc' := 6) (l' := jSto1 L1 6 (.int (i32 (0)))) (st' := []) rfl rfl ?_
  obtain ⟨L2, eL2⟩ : ∃ q, q = jSto1 L1 6 (.int (i32 (0))) := ⟨_, rfl⟩
  rw [← eL2]
  have gL2_0 : jGet L2 0 = some (.ref 66) := eL2 ▸ jg_ne (by decide) gL1_0 rfl
  have gL2_1 : jGet L2 1 = some (.int (i32 (n))) := eL2 ▸ jg_ne (by decide) gL1_1 rfl
  have gL2_2 : jGet L2 2 = some (.int (i32 (lv))) := eL2 ▸ jg_ne (by decide) gL1_2 rfl
  have gL2_3 : jGet L2 3 = some (.int (i32 (least))) := eL2 ▸ jg_ne (by decide) gL1_3 rfl
  have gL2_4 : jGet L2 4 = some (.int (i32 (mo))) := eL2 ▸ jg_ne (by decide) gL1_4 rfl
  have gL2_5 : jGet L2 5 = some (.int (i32 (0))) := eL2 ▸ jg_ne (by decide) gL1_5 rfl
  have gL2_6 : jGet L2 6 = some (.int (i32 (0))) := eL2 ▸ jg_eq
  refine jx_ld (pc' := 7) (l' := L2) (st' := [.ref 66]) rfl (jl_aloadn gL2_0) ?_
  refine jx_ld (pc' := 8) (l' := L2) (st' := [.int (i32 (lv)), .ref 66]) rfl (jl_iloadn gL2_2) ?_
  have b3 : (0 : Int) ≤ G 9 ∧ G 9 ≤ 3000 := hW.1 9
  have b4 : (0 : Int) ≤ G 3 ∧ G 3 ≤ 3000 := hW.1 3
  have b5 : (-1 : Int) ≤ A 5 (G 9).toNat ∧ A 5 (G 9).toNat ≤ 15 := hW.2 5 _
  refine jx_vr (pc' := 11) (as := [.int (i32 (lv))]) (st := []) rfl rfl rfl rfl ⟨rfl, rfl, Nat.le_of_ble_eq_true rfl⟩ rfl rfl (c_isBelow (dd := d) (hd := by omega) (hW := hW) (lv := lv) (ln := G 9) (e_ln := show G 9 = G 9 from rfl) (li := G 3) (e_li := show G 3 = G 3 from rfl) (fk := fk) (e_fk := show G 16 = fk from (e_fk)) (ll := A 5 (G 9).toNat) (e_ll := show A 5 (G 9).toNat = A 5 (G 9).toNat from rfl)  (h_lv := ⟨(Int.le_trans (by decide : (-2147483648 : Int) ≤ -2147483648) h_lv.1), (Int.le_trans h_lv.2 (by decide : (2147483647 : Int) ≤ 2147483647))⟩)  (p_0 := by omega)) (fun o V' hq => ?_)
  obtain ⟨G6, A7, r8, fk2_9, rfl, rfl, hW10, hF11, b12, e13, q14⟩ := hq
  have hF15 := Fr_tr hF0 hF11 (Fr_sub (by decide)) (Fr_sub (by decide))
  have hP16 := Pf_f hP0 hF11 (by decide)
  have bfk2_9 : (0 : Int) ≤ fk2_9 ∧ fk2_9 ≤ 6 := e13 ▸ hW10.1 16
  refine .inr ⟨_, rfl, ?_⟩
  rcases q14 with ⟨rfl, a17, a18, a19, a20⟩ | ⟨rfl, a21⟩ | ⟨rfl, a22, a23⟩
  · have _q : True := trivial
    exfalso
    omega
  · have _q : True := trivial
    refine jx_if_eq (pc' := 14) (tg := 98) rfl rfl rfl (by decide) (by decide) (fun h24 => ?_) (fun h24 => ?_)
    · have _q := h24
      refine jx_ld (pc' := 99) (l' := L2) (st' := [.ref 66]) rfl (jl_aloadn gL2_0) ?_
      refine jx_vr (pc' := 102) (as := []) (st := []) rfl rfl rfl rfl ⟨rfl, rfl, Nat.le_of_ble_eq_true rfl⟩ rfl rfl (c_bad (dd := d) (hd := by omega) (hW := hW10)  (fk := fk2_9) (e_fk := show G6 16 = fk2_9 from (e13))    ) (fun o V' hq => ?_)
      obtain ⟨r25, rfl, rfl, b26, q27⟩ := hq
      refine .inr ⟨_, rfl, ?_⟩
      rcases q27 with ⟨rfl, a28⟩ | ⟨rfl, a29⟩
      · have _q : True := trivial
        refine jx_if_ne (pc' := 105) (tg := 119) rfl rfl rfl (by decide) (by decide) (fun h30 => ?_) (fun h30 => ?_)
        · have _q := h30
          refine jx_ld (pc' := 120) (l' := L2) (st' := [.ref 66]) rfl (jl_aloadn gL2_0) ?_
          refine jr_get (pc' := 123) (i := 35) (v := .ref 85) rfl rfl (by decide) rfl rfl ?_
          refine jx_ld (pc' := 124) (l' := L2) (st' := [.int (i32 (n)), .ref 85]) rfl (jl_iloadn gL2_1) ?_
          refine jx_ld (pc' := 126) (l' := L2) (st' := [.int (i32 (0)), .int (i32 (n)), .ref 85]) rfl (jl_iload gL2_6) ?_
          refine jr_st (pc' := 127) (i := 18) (m := 7000) (z := n) (y := 0) rfl (by decide) rfl (by decide) (by omega) (by omega) rfl ?_
          have hW32 : Wk G6 (uA A7 18 (n).toNat (0)) := Wk_a hW10 (show (-2147483648 : Int) ≤ 0 by omega) (show 0 ≤ (2147483647 : Int) by omega)
          have hF33 := Fr_a (z := 0) (k := 18) (n := (n).toNat) hF15 (by decide)
          obtain ⟨A31, eA31⟩ : ∃ q, q = uA A7 18 (n).toNat (0) := ⟨_, rfl⟩
          rw [← eA31]
          rw [← eA31] at hW32 hF33
          have q34 : A31 18 (n).toNat = 0 := by rw [eA31]; exact uA_eq
          have hP35 : Pf zz A A31 := eA31 ▸ Pf_a hP16 (z := n) (by omega) (by omega)
          refine jx_rt (v := none) rfl rfl rfl rfl rfl rfl ?_
          exact ⟨_, _, fk2_9, rfl, rfl, hW32, hF33, hP35, (e13), by omega, trivial⟩
        · have _q := h30
          exact absurd h30 (by omega)
      · have _q : True := trivial
        exfalso
        omega
    · have _q := h24
      exact absurd h24 (by omega)
  · have _q : True := trivial
    exfalso
    omega
set_option maxRecDepth 20000 in
set_option maxHeartbeats 4000000 in
theorem c_readIndexed {X : jX} {k : Nat} (hP : RP X k) {zz : Int} {dd : Nat} {c0 c1 : jC} {G : Nat → Int} {A : Nat → Nat → Int} {T : jH} {n lv : Int} {ln li at0 fk nd sy na vi lf sa : Int} (hd : 8 * k + 81 ≤ dd) (hW : Wk G A) (e_ln : G 9 = ln) (e_li : G 3 = li) (e_at0 : G 10 = at0) (e_fk : G 16 = fk) (e_nd : G 31 = nd) (e_sy : G 19 = sy) (e_na : G 28 = na) (e_vi : G 29 = vi) (e_lf : A 3 (ln).toNat = lf) (e_sa : A 17 (n).toNat = sa) (i_LT : LT G A) (h_n : (-2147483648 : Int) ≤ n ∧ n ≤ 2147483647) (h_lv : (-2147483648 : Int) ≤ lv ∧ lv ≤ 2147483647) (p_0 : 0 ≤ n ∧ n ≤ 6998) (p_1 : n < nd) (p_2 : 0 ≤ lv ∧ lv ≤ 15) (p_3 : 17 - lv ≤ (k : Int)) (p_4 : fk = 0) (p_5 : ln ≤ li) (p_6 : at0 < lf ∨ li ≤ ln) (p_7 : nd ≤ 2 * at0 + 32) (p_8 : sy ≤ na + 2) (p_9 : vi ≤ sy) (p_10 : 0 ≤ sa ∧ sa ≤ 201) (p_11 : vi < sy) (p_12 : zz ≤ n) : wk X dd 298 [.ref 66, .int (i32 n), .int (i32 lv)] (rV c0 c1 G A T) (fun o V' => ∃ (G' : Nat → Int) (A' : Nat → Nat → Int) (r : Int) (ln2 : Int) (at2 : Int) (fk2 : Int) (nd2 : Int) (sy2 : Int) (na2 : Int) (vi2 : Int) (lf2 : Int), V' = rV c0 c1 G' A' T ∧ o = .inl (some (.int (i32 r))) ∧ Wk G' A' ∧ Fr [9, 10, 11, 12, 13, 14, 15, 16, 17, 18, 19, 28, 29, 31] [6, 7, 8, 9, 10, 11, 12, 14, 15, 16, 17, 18, 19, 20, 21, 22, 23, 24, 28] G A G' A' ∧ Pf zz A A' ∧ ((-2147483648 : Int) ≤ r ∧ r ≤ 2147483647) ∧ G' 9 = ln2 ∧ G' 10 = at2 ∧ G' 16 = fk2 ∧ G' 31 = nd2 ∧ G' 19 = sy2 ∧ G' 28 = na2 ∧ G' 29 = vi2 ∧ A' 3 (ln2).toNat = lf2 ∧ (at0 ≤ at2) ∧ (nd ≤ nd2) ∧ (sy ≤ sy2) ∧ (sy2 ≤ na2 + 2) ∧ (ln ≤ ln2) ∧ (ln2 ≤ li) ∧ (vi2 = vi) ∧ (r = n) ∧ (((1 ≤ fk2) ∧ (nd2 - nd ≤ 2 * at2 - 2 * at0 + 12)) ∨ ((fk2 = 0) ∧ (nd2 - nd ≤ 2 * at2 - 2 * at0) ∧ (at2 < lf2 ∨ li ≤ ln2) ∧ (ln < ln2)))) := by
  obtain ⟨d, rfl⟩ : ∃ d, dd = d + 1 := ⟨dd - 1, by omega⟩
  refine wk_of (e := jm298) rfl (Nat.le_of_ble_eq_true rfl) ?_
  show wj X d jm298 (0, [(0, .ref 66), (1, .int (i32 (n))), (2, .int (i32 (lv)))], [], rV c0 c1 G A T) _
  have hF0 : Fr [9, 10, 11, 12, 13, 14, 15, 16, 17, 18, 19, 28, 29, 31] [6, 7, 8, 9, 10, 11, 12, 14, 15, 16, 17, 18, 19, 20, 21, 22, 23, 24, 28] G A G A := Fr_rf
  have hP0 : Pf zz A A := Pf_rf
  have b_ln : (0 : Int) ≤ ln ∧ ln ≤ 3000 := e_ln ▸ hW.1 9
  have b_li : (0 : Int) ≤ li ∧ li ≤ 3000 := e_li ▸ hW.1 3
  have b_at0 : (0 : Int) ≤ at0 ∧ at0 ≤ 3002 := e_at0 ▸ hW.1 10
  have b_fk : (0 : Int) ≤ fk ∧ fk ≤ 6 := e_fk ▸ hW.1 16
  have b_nd : (0 : Int) ≤ nd ∧ nd ≤ 6999 := e_nd ▸ hW.1 31
  have b_sy : (0 : Int) ≤ sy ∧ sy ≤ 202 := e_sy ▸ hW.1 19
  have b_na : (0 : Int) ≤ na ∧ na ≤ 200 := e_na ▸ hW.1 28
  have b_vi : (0 : Int) ≤ vi ∧ vi ≤ 202 := e_vi ▸ hW.1 29
  have b_lf : (0 : Int) ≤ lf ∧ lf ≤ 3000 := e_lf ▸ hW.2 3 _
  have b_sa : (-2147483648 : Int) ≤ sa ∧ sa ≤ 2147483647 := e_sa ▸ hW.2 17 _
  refine jx_ld (pc' := 1) (l' := [(0, .ref 66), (1, .int (i32 (n))), (2, .int (i32 (lv)))]) (st' := [.ref 66]) rfl (jl_aloadn rfl) ?_
  refine jx_vr (pc' := 4) (as := []) (st := []) rfl rfl rfl rfl ⟨rfl, rfl, Nat.le_of_ble_eq_true rfl⟩ rfl rfl (c_bad (dd := d) (hd := by omega) (hW := hW)  (fk := fk) (e_fk := show G 16 = fk from (e_fk))    ) (fun o V' hq => ?_)
  obtain ⟨r1, rfl, rfl, b2, q3⟩ := hq
  refine .inr ⟨_, rfl, ?_⟩
  rcases q3 with ⟨rfl, a4⟩ | ⟨rfl, a5⟩
  · have _q : True := trivial
    exfalso
    omega
  · have _q : True := trivial
    refine jx_if_eq (pc' := 7) (tg := 9) rfl rfl rfl (by decide) (by decide) (fun h6 => ?_) (fun h6 => ?_)
    · have _q := h6
      refine jx_ld (pc' := 10) (l' := [(0, .ref 66), (1, .int (i32 (n))), (2, .int (i32 (lv)))]) (st' := [.ref 66]) rfl (jl_aloadn rfl) ?_
      refine jr_get (pc' := 13) (i := 29) (v := .int (i32 (vi))) rfl rfl (by decide) (rFv_eq (by decide) (show G 29 = vi from (e_vi))) rfl ?_
      refine jx_ld (pc' := 14) (l' := jSto1 [(0, .ref 66), (1, .int (i32 (n))), (2, .int (i32 (lv)))] 3 (.int (i32 (vi)))) (st' := []) rfl rfl ?_
      obtain ⟨L7, eL7⟩ : ∃ q, q = jSto1 [(0, .ref 66), (1, .int (i32 (n))), (2, .int (i32 (lv)))] 3 (.int (i32 (vi))) := ⟨_, rfl⟩
      rw [← eL7]
      have gL7_0 : jGet L7 0 = some (.ref 66) := eL7 ▸ jg_ne (by decide) (rfl : jGet [(0, .ref 66), (1, .int (i32 (n))), (2, .int (i32 (lv)))] 0 = some (.ref 66)) rfl
      have gL7_1 : jGet L7 1 = some (.int (i32 (n))) := eL7 ▸ jg_ne (by decide) (rfl : jGet [(0, .ref 66), (1, .int (i32 (n))), (2, .int (i32 (lv)))] 1 = some (.int (i32 (n)))) rfl
      have gL7_2 : jGet L7 2 = some (.int (i32 (lv))) := eL7 ▸ jg_ne (by decide) (rfl : jGet [(0, .ref 66), (1, .int (i32 (n))), (2, .int (i32 (lv)))] 2 = some (.int (i32 (lv)))) rfl
      have gL7_3 : jGet L7 3 = some (.int (i32 (vi))) := eL7 ▸ jg_eq
      refine jx_ld (pc' := 15) (l' := L7) (st' := [.ref 66]) rfl (jl_aloadn gL7_0) ?_
      refine jx_ld (pc' := 16) (l' := L7) (st' := [.ref 66, .ref 66]) rfl (jl_aloadn gL7_0) ?_
      refine jr_get (pc' := 19) (i := 34) (v := .ref 84) rfl rfl (by decide) rfl rfl ?_
      refine jx_ld (pc' := 20) (l' := L7) (st' := [.int (i32 (n)), .ref 84, .ref 66]) rfl (jl_iloadn gL7_1) ?_
      refine jr_ldv (pc' := 21) (i := 17) (m := 7000) (z := n) (y := sa) rfl (by decide) rfl (by decide) (by omega) (by omega) rfl (show A 17 (n).toNat = sa from (e_sa)) ?_
      refine jx_vr (pc' := 24) (as := [.int (i32 (sa))]) (st := []) rfl rfl rfl rfl ⟨rfl, rfl, Nat.le_of_ble_eq_true rfl⟩ rfl rfl (c_show (dd := d) (hd := by omega) (hW := hW) (s := sa) (vi := vi) (e_vi := show G 29 = vi from (e_vi))  (h_s := ⟨(Int.le_trans (by decide : (-2147483648 : Int) ≤ -2147483648) b_sa.1), (Int.le_trans b_sa.2 (by decide : (2147483647 : Int) ≤ 2147483647))⟩)  (p_0 := by omega) (p_1 := by omega)) (fun o V' hq => ?_)
      obtain ⟨G8, A9, vi2_10, rfl, rfl, hW11, hF12, e13, p14, -⟩ := hq
      have hF16 := Fr_tr hF0 hF12 (Fr_sub (by decide)) (Fr_sub (by decide))
      have hP17 := Pf_f hP0 hF12 (by decide)
      have bvi2_10 : (0 : Int) ≤ vi2_10 ∧ vi2_10 ≤ 202 := e13 ▸ hW11.1 29
      refine .inl ⟨rfl, ?_⟩
      refine jx_ld (pc' := 25) (l' := L7) (st' := [.ref 66]) rfl (jl_aloadn gL7_0) ?_
      refine jr_get (pc' := 28) (i := 38) (v := .ref 88) rfl rfl (by decide) rfl rfl ?_
      refine jx_ld (pc' := 29) (l' := L7) (st' := [.int (i32 (n)), .ref 88]) rfl (jl_iloadn gL7_1) ?_
      refine jx_ld (pc' := 30) (l' := L7) (st' := [.ref 66, .int (i32 (n)), .ref 88]) rfl (jl_aloadn gL7_0) ?_
      refine jx_ld (pc' := 31) (l' := L7) (st' := [.int (i32 (lv)), .ref 66, .int (i32 (n)), .ref 88]) rfl (jl_iloadn gL7_2) ?_
      refine jx_ar (pc' := 32) (st' := [.int (i32 (1)), .int (i32 (lv)), .ref 66, .int (i32 (n)), .ref 88]) rfl rfl rfl rfl ?_
      refine jx_add (pc' := 33) rfl rfl ?_
      refine jx_vr (pc' := 36) (as := [.int (i32 ((lv + 1)))]) (st := [.int (i32 (n)), .ref 88]) rfl rfl rfl rfl ⟨rfl, rfl, Nat.le_of_ble_eq_true rfl⟩ rfl rfl (hP (dd := d) (hd := by omega) (hW := hW11) (lv := (lv + 1)) (at0 := at0) (ln := ln) (e_ln := show G8 9 = ln from ((hF12.1 9 rfl).trans (e_ln))) (li := li) (e_li := show G8 3 = li from ((hF12.1 3 rfl).trans (e_li))) (fk := fk) (e_fk := show G8 16 = fk from ((hF12.1 16 rfl).trans (e_fk))) (nd := nd) (e_nd := show G8 31 = nd from ((hF12.1 31 rfl).trans (e_nd))) (sy := sy) (e_sy := show G8 19 = sy from ((hF12.1 19 rfl).trans (e_sy))) (na := na) (e_na := show G8 28 = na from ((hF12.1 28 rfl).trans (e_na))) (vi := vi2_10) (e_vi := show G8 29 = vi2_10 from (e13)) (lf := lf) (e_lf := show A9 3 (ln).toNat = lf from (congrFun (hF12.2 3 rfl) _).trans (e_lf)) (ac := at0) (e_ac := show G8 10 = at0 from ((hF12.1 10 rfl).trans (e_at0))) (i_LT := (LT_ext ((hF12.1 3 rfl)) ((hF12.2 3 rfl)) ((hF12.2 4 rfl)) i_LT)) (h_lv := ⟨(by omega), (by omega)⟩)  (p_0 := by omega) (p_1 := by omega) (p_2 := by omega) (p_3 := by omega) (p_4 := by omega) (p_5 := by omega) (p_6 := by omega) (p_7 := by omega) (p_8 := by omega) (p_9 := by omega)) (fun o V' hq => ?_)
      obtain ⟨G18, A19, r20, ln2_21, at2_22, fk2_23, nd2_24, sy2_25, na2_26, vi2_27, lf2_28, rfl, rfl, hW29, hF30, hQ31, b32, e33, e34, e35, e36, e37, e38, e39, e40, p41, p42, p43, p44, p45, p46, p47, p48, p49, q50⟩ := hq
      have hF51 := Fr_tr hF16 hF30 (Fr_sub (by decide)) (Fr_sub (by decide))
      have hP52 := Pf_tr hP17 hQ31 (by omega)
      have bln2_21 : (0 : Int) ≤ ln2_21 ∧ ln2_21 ≤ 3000 := e33 ▸ hW29.1 9
      have bat2_22 : (0 : Int) ≤ at2_22 ∧ at2_22 ≤ 3002 := e34 ▸ hW29.1 10
      have bfk2_23 : (0 : Int) ≤ fk2_23 ∧ fk2_23 ≤ 6 := e35 ▸ hW29.1 16
      have bnd2_24 : (0 : Int) ≤ nd2_24 ∧ nd2_24 ≤ 6999 := e36 ▸ hW29.1 31
      have bsy2_25 : (0 : Int) ≤ sy2_25 ∧ sy2_25 ≤ 202 := e37 ▸ hW29.1 19
      have bna2_26 : (0 : Int) ≤ na2_26 ∧ na2_26 ≤ 200 := e38 ▸ hW29.1 28
      have bvi2_27 : (0 : Int) ≤ vi2_27 ∧ vi2_27 ≤ 202 := e39 ▸ hW29.1 29
      have blf2_28 : (0 : Int) ≤ lf2_28 ∧ lf2_28 ≤ 3000 := e40 ▸ hW29.2 3 _
      refine .inr ⟨_, rfl, ?_⟩
      rcases q50 with ⟨a53, a54⟩ | ⟨a55, a56, a57, a58, a59, a60⟩
      · have _q : True := trivial
        refine jr_st (pc' := 37) (i := 21) (m := 7000) (z := n) (y := r20) rfl (by decide) rfl (by decide) (by omega) (by omega) rfl ?_
        have hW62 : Wk G18 (uA A19 21 (n).toNat (r20)) := Wk_a hW29 (show (-2147483648 : Int) ≤ r20 by omega) (show r20 ≤ (2147483647 : Int) by omega)
        have hF63 := Fr_a (z := r20) (k := 21) (n := (n).toNat) hF51 (by decide)
        obtain ⟨A61, eA61⟩ : ∃ q, q = uA A19 21 (n).toNat (r20) := ⟨_, rfl⟩
        rw [← eA61]
        rw [← eA61] at hW62 hF63
        have q64 : A61 21 (n).toNat = r20 := by rw [eA61]; exact uA_eq
        have hP65 : Pf zz A A61 := eA61 ▸ Pf_a hP52 (z := n) (by omega) (by omega)
        refine jx_ld (pc' := 38) (l' := L7) (st' := [.ref 66]) rfl (jl_aloadn gL7_0) ?_
        refine jx_ld (pc' := 39) (l' := L7) (st' := [.int (i32 (vi)), .ref 66]) rfl (jl_iloadn gL7_3) ?_
        refine jr_put (pc' := 42) (i := 29) (z := vi) rfl rfl (by decide) rfl rfl rfl rfl rfl rfl ?_
        have hW66 : Wk (uG G18 29 (vi)) A61 := Wk_g hW62 (show (0 : Int) ≤ vi by omega) (show vi ≤ (202 : Int) by omega)
        have hF67 := Fr_g (z := vi) (i := 29) hF63 (by decide)
        refine jx_ld (pc' := 43) (l' := L7) (st' := [.int (i32 (n))]) rfl (jl_iloadn gL7_1) ?_
        refine jx_rt (v := some (.int (i32 (n)))) rfl rfl rfl rfl rfl rfl ?_
        exact ⟨_, _, _, ln2_21, at2_22, fk2_23, nd2_24, sy2_25, na2_26, vi, lf2_28, rfl, rfl, hW66, hF67, hP65, by omega, (e33), (e34), (e35), (e36), (e37), (e38), rfl, (congrFun ((congrFun eA61 3).trans (uA_ne (by decide))) _).trans (e40), by omega, by omega, by omega, by omega, by omega, by omega, by omega, by omega, by first | exact Or.inl (⟨by omega, by omega⟩) | exact Or.inr ((⟨by omega, by omega, by omega, by omega⟩))⟩
      · have _q : True := trivial
        refine jr_st (pc' := 37) (i := 21) (m := 7000) (z := n) (y := r20) rfl (by decide) rfl (by decide) (by omega) (by omega) rfl ?_
        have hW69 : Wk G18 (uA A19 21 (n).toNat (r20)) := Wk_a hW29 (show (-2147483648 : Int) ≤ r20 by omega) (show r20 ≤ (2147483647 : Int) by omega)
        have hF70 := Fr_a (z := r20) (k := 21) (n := (n).toNat) hF51 (by decide)
        obtain ⟨A68, eA68⟩ : ∃ q, q = uA A19 21 (n).toNat (r20) := ⟨_, rfl⟩
        rw [← eA68]
        rw [← eA68] at hW69 hF70
        have q71 : A68 21 (n).toNat = r20 := by rw [eA68]; exact uA_eq
        have hP72 : Pf zz A A68 := eA68 ▸ Pf_a hP52 (z := n) (by omega) (by omega)
        refine jx_ld (pc' := 38) (l' := L7) (st' := [.ref 66]) rfl (jl_aloadn gL7_0) ?_
        refine jx_ld (pc' := 39) (l' := L7) (st' := [.int (i32 (vi)), .ref 66]) rfl (jl_iloadn gL7_3) ?_
        refine jr_put (pc' := 42) (i := 29) (z := vi) rfl rfl (by decide) rfl rfl rfl rfl rfl rfl ?_
        have hW73 : Wk (uG G18 29 (vi)) A68 := Wk_g hW69 (show (0 : Int) ≤ vi by omega) (show vi ≤ (202 : Int) by omega)
        have hF74 := Fr_g (z := vi) (i := 29) hF70 (by decide)
        refine jx_ld (pc' := 43) (l' := L7) (st' := [.int (i32 (n))]) rfl (jl_iloadn gL7_1) ?_
        refine jx_rt (v := some (.int (i32 (n)))) rfl rfl rfl rfl rfl rfl ?_
        exact ⟨_, _, _, ln2_21, at2_22, fk2_23, nd2_24, sy2_25, na2_26, vi, lf2_28, rfl, rfl, hW73, hF74, hP72, by omega, (e33), (e34), (e35), (e36), (e37), (e38), rfl, (congrFun ((congrFun eA68 3).trans (uA_ne (by decide))) _).trans (e40), by omega, by omega, by omega, by omega, by omega, by omega, by omega, by omega, by first | exact Or.inl (⟨by omega, by omega⟩) | exact Or.inr ((⟨by omega, by omega, by omega, by omega⟩))⟩
    · have _q := h6
      exact absurd h6 (by omega)
set_option maxRecDepth 20000 in
set_option maxHeartbeats 4000000 in
theorem c_readIndexed_f {X : jX} {dd : Nat} {c0 c1 : jC} {G : Nat → Int} {A : Nat → Nat → Int} {T : jH} {n lv : Int} {fk : Int} (hd : 2 ≤ dd) (hW : Wk G A) (e_fk : G 16 = fk) (h_n : (-2147483648 : Int) ≤ n ∧ n ≤ 2147483647) (h_lv : (-2147483648 : Int) ≤ lv ∧ lv ≤ 2147483647) (p_0 : 1 ≤ fk) : wk X dd 298 [.ref 66, .int (i32 n), .int (i32 lv)] (rV c0 c1 G A T) (fun o V' => ∃ (r : Int), V' = rV c0 c1 G A T ∧ o = .inl (some (.int (i32 r))) ∧ ((-2147483648 : Int) ≤ r ∧ r ≤ 2147483647) ∧ (r = 0) ∧ True) := by
  obtain ⟨d, rfl⟩ : ∃ d, dd = d + 1 := ⟨dd - 1, by omega⟩
  refine wk_of (e := jm298) rfl (Nat.le_of_ble_eq_true rfl) ?_
  show wj X d jm298 (0, [(0, .ref 66), (1, .int (i32 (n))), (2, .int (i32 (lv)))], [], rV c0 c1 G A T) _
  have b_fk : (0 : Int) ≤ fk ∧ fk ≤ 6 := e_fk ▸ hW.1 16
  refine jx_ld (pc' := 1) (l' := [(0, .ref 66), (1, .int (i32 (n))), (2, .int (i32 (lv)))]) (st' := [.ref 66]) rfl (jl_aloadn rfl) ?_
  refine jx_vr (pc' := 4) (as := []) (st := []) rfl rfl rfl rfl ⟨rfl, rfl, Nat.le_of_ble_eq_true rfl⟩ rfl rfl (c_bad (dd := d) (hd := by omega) (hW := hW)  (fk := fk) (e_fk := show G 16 = fk from (e_fk))    ) (fun o V' hq => ?_)
  obtain ⟨r1, rfl, rfl, b2, q3⟩ := hq
  refine .inr ⟨_, rfl, ?_⟩
  rcases q3 with ⟨rfl, a4⟩ | ⟨rfl, a5⟩
  · have _q : True := trivial
    refine jx_if_eq (pc' := 7) (tg := 9) rfl rfl rfl (by decide) (by decide) (fun h6 => ?_) (fun h6 => ?_)
    · have _q := h6
      exact absurd h6 (by omega)
    · have _q := h6
      refine jx_ar (pc' := 8) (st' := [.int (i32 (0))]) rfl rfl rfl rfl ?_
      refine jx_rt (v := some (.int (i32 (0)))) rfl rfl rfl rfl rfl rfl ?_
      exact ⟨_, rfl, rfl, by omega, by omega, trivial⟩
  · have _q : True := trivial
    exfalso
    omega
