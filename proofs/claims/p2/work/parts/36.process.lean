set_option maxRecDepth 20000 in
set_option maxHeartbeats 4000000 in
theorem c_readProcess_s {X : jX} {k : Nat} (hP : RP X k) {dd : Nat} {c0 c1 : jC} {G : Nat → Int} {A : Nat → Nat → Int} {T : jH} {lv : Int} {at0 : Int} {ln li fk nd sy na vi lf ac : Int} (hd : 8 * (k + 1) + 80 ≤ dd) (hW : Wk G A) (e_ln : G 9 = ln) (e_li : G 3 = li) (e_fk : G 16 = fk) (e_nd : G 31 = nd) (e_sy : G 19 = sy) (e_na : G 28 = na) (e_vi : G 29 = vi) (e_lf : A 3 (ln).toNat = lf) (e_ac : G 10 = ac) (i_LT : LT G A) (h_lv : (-2147483648 : Int) ≤ lv ∧ lv ≤ 2147483647) (p_0 : 0 ≤ lv ∧ lv ≤ 40) (p_1 : 18 - lv ≤ ((k + 1 : Nat) : Int)) (p_2 : fk = 0) (p_3 : ln ≤ li) (p_4 : at0 < lf ∨ li ≤ ln) (p_5 : nd ≤ 2 * at0 + 32) (p_6 : sy ≤ na + 2) (p_7 : vi ≤ sy) (p_8 : at0 ≤ ac) (p_9 : -1 ≤ at0) : wk X dd 292 [.ref 66, .int (i32 lv)] (rV c0 c1 G A T) (fun o V' => ∃ (G' : Nat → Int) (A' : Nat → Nat → Int) (r : Int) (ln2 : Int) (at2 : Int) (fk2 : Int) (nd2 : Int) (sy2 : Int) (na2 : Int) (vi2 : Int) (lf2 : Int), V' = rV c0 c1 G' A' T ∧ o = .inl (some (.int (i32 r))) ∧ Wk G' A' ∧ Fr [9, 10, 11, 12, 13, 14, 15, 16, 17, 18, 19, 28, 29, 31] [6, 7, 8, 9, 10, 11, 12, 14, 15, 16, 17, 18, 19, 20, 21, 22, 23, 24, 28] G A G' A' ∧ Pf nd A A' ∧ ((-2147483648 : Int) ≤ r ∧ r ≤ 2147483647) ∧ G' 9 = ln2 ∧ G' 10 = at2 ∧ G' 16 = fk2 ∧ G' 31 = nd2 ∧ G' 19 = sy2 ∧ G' 28 = na2 ∧ G' 29 = vi2 ∧ A' 3 (ln2).toNat = lf2 ∧ (at0 ≤ at2) ∧ (nd ≤ nd2) ∧ (sy ≤ sy2) ∧ (sy2 ≤ na2 + 2) ∧ (vi2 = vi) ∧ (0 ≤ r) ∧ (r ≤ 6999) ∧ (ln ≤ ln2) ∧ (ln2 ≤ li) ∧ (((1 ≤ fk2) ∧ (nd2 - nd ≤ 2 * at2 - 2 * at0 + 12)) ∨ ((fk2 = 0) ∧ (ln < ln2) ∧ (nd2 - nd ≤ 2 * at2 - 2 * at0) ∧ (at2 < lf2 ∨ li ≤ ln2) ∧ (nd ≤ r) ∧ (r < nd2)))) := by
  obtain ⟨d, rfl⟩ : ∃ d, dd = d + 1 := ⟨dd - 1, by omega⟩
  refine wk_of (e := jm292) rfl (Nat.le_of_ble_eq_true rfl) ?_
  show wj X d jm292 (0, [(0, .ref 66), (1, .int (i32 (lv)))], [], rV c0 c1 G A T) _
  have hF0 : Fr [9, 10, 11, 12, 13, 14, 15, 16, 17, 18, 19, 28, 29, 31] [6, 7, 8, 9, 10, 11, 12, 14, 15, 16, 17, 18, 19, 20, 21, 22, 23, 24, 28] G A G A := Fr_rf
  have hP0 : Pf nd A A := Pf_rf
  have b_ln : (0 : Int) ≤ ln ∧ ln ≤ 3000 := e_ln ▸ hW.1 9
  have b_li : (0 : Int) ≤ li ∧ li ≤ 3000 := e_li ▸ hW.1 3
  have b_fk : (0 : Int) ≤ fk ∧ fk ≤ 6 := e_fk ▸ hW.1 16
  have b_nd : (0 : Int) ≤ nd ∧ nd ≤ 6999 := e_nd ▸ hW.1 31
  have b_sy : (0 : Int) ≤ sy ∧ sy ≤ 202 := e_sy ▸ hW.1 19
  have b_na : (0 : Int) ≤ na ∧ na ≤ 200 := e_na ▸ hW.1 28
  have b_vi : (0 : Int) ≤ vi ∧ vi ≤ 202 := e_vi ▸ hW.1 29
  have b_lf : (0 : Int) ≤ lf ∧ lf ≤ 3000 := e_lf ▸ hW.2 3 _
  have b_ac : (0 : Int) ≤ ac ∧ ac ≤ 3002 := e_ac ▸ hW.1 10
  have at_27 : ∀ (m : Nat) (L : jL) (Gx : Nat → Int) (Ax : Nat → Nat → Int) (dc ln1 at1 tk1 fk1 op1 sy1 na1 vi1 le1 : Int), (li - ln1).toNat = m → jGet L 0 = some (.ref 66) → jGet L 1 = some (.int (i32 (lv))) → jGet L 2 = some (.int (i32 (vi))) → jGet L 3 = some (.int (i32 (sy))) → jGet L 4 = some (.int (i32 dc)) → Wk Gx Ax → Fr [9, 10, 11, 12, 13, 14, 15, 16, 17, 18, 19, 28, 29, 31] [6, 7, 8, 9, 10, 11, 12, 14, 15, 16, 17, 18, 19, 20, 21, 22, 23, 24, 28] G A Gx Ax → Pf nd A Ax → Gx 9 = ln1 → Gx 10 = at1 → Gx 11 = tk1 → Gx 16 = fk1 → Gx 15 = op1 → Gx 19 = sy1 → Gx 28 = na1 → Gx 29 = vi1 → Ax 4 (ln1).toNat = le1 → Gx 31 = nd → ((-2147483648 : Int) ≤ dc ∧ dc ≤ 2147483647) → (fk1 = 0) → (lv ≤ 15) → (ln ≤ ln1) → (ln1 < li) → (at1 ≤ le1) → (2 * at0 + 2 ≤ 2 * at1 - tz tk1) → (op1 = 0) → (sy ≤ sy1) → (sy1 ≤ na1 + 2) → (vi ≤ vi1) → (vi1 ≤ sy1) → (dc = sy1 - sy) → wj X d jm292 (27, L, [], rV c0 c1 Gx Ax T) (fun o V' => ∃ (G' : Nat → Int) (A' : Nat → Nat → Int) (r : Int) (ln2 : Int) (at2 : Int) (fk2 : Int) (nd2 : Int) (sy2 : Int) (na2 : Int) (vi2 : Int) (lf2 : Int), V' = rV c0 c1 G' A' T ∧ o = .inl (some (.int (i32 r))) ∧ Wk G' A' ∧ Fr [9, 10, 11, 12, 13, 14, 15, 16, 17, 18, 19, 28, 29, 31] [6, 7, 8, 9, 10, 11, 12, 14, 15, 16, 17, 18, 19, 20, 21, 22, 23, 24, 28] G A G' A' ∧ Pf nd A A' ∧ ((-2147483648 : Int) ≤ r ∧ r ≤ 2147483647) ∧ G' 9 = ln2 ∧ G' 10 = at2 ∧ G' 16 = fk2 ∧ G' 31 = nd2 ∧ G' 19 = sy2 ∧ G' 28 = na2 ∧ G' 29 = vi2 ∧ A' 3 (ln2).toNat = lf2 ∧ (at0 ≤ at2) ∧ (nd ≤ nd2) ∧ (sy ≤ sy2) ∧ (sy2 ≤ na2 + 2) ∧ (vi2 = vi) ∧ (0 ≤ r) ∧ (r ≤ 6999) ∧ (ln ≤ ln2) ∧ (ln2 ≤ li) ∧ (((1 ≤ fk2) ∧ (nd2 - nd ≤ 2 * at2 - 2 * at0 + 12)) ∨ ((fk2 = 0) ∧ (ln < ln2) ∧ (nd2 - nd ≤ 2 * at2 - 2 * at0) ∧ (at2 < lf2 ∨ li ≤ ln2) ∧ (nd ≤ r) ∧ (r < nd2)))) := by
    intro m
    induction m using Nat.strongRecOn with
    | ind m ih27 =>
      intro L Gx Ax dc ln1 at1 tk1 fk1 op1 sy1 na1 vi1 le1 hm gL_0 gL_1 gL_2 gL_3 gL_4 hWx hFx hPx ex_ln1 ex_at1 ex_tk1 ex_fk1 ex_op1 ex_sy1 ex_na1 ex_vi1 ex_le1 fx_31 rx_dc iv_0 iv_1 iv_2 iv_3 iv_4 iv_5 iv_6 iv_7 iv_8 iv_9 iv_10 iv_11
      have b_ln1 : (0 : Int) ≤ ln1 ∧ ln1 ≤ 3000 := ex_ln1 ▸ hWx.1 9
      have b_at1 : (0 : Int) ≤ at1 ∧ at1 ≤ 3002 := ex_at1 ▸ hWx.1 10
      have z_tk1 := tz_f tk1
      have b_tk1 : (0 : Int) ≤ tk1 ∧ tk1 ≤ 5 := ex_tk1 ▸ hWx.1 11
      have b_fk1 : (0 : Int) ≤ fk1 ∧ fk1 ≤ 6 := ex_fk1 ▸ hWx.1 16
      have b_op1 : (-2147483648 : Int) ≤ op1 ∧ op1 ≤ 2147483647 := ex_op1 ▸ hWx.1 15
      have b_sy1 : (0 : Int) ≤ sy1 ∧ sy1 ≤ 202 := ex_sy1 ▸ hWx.1 19
      have b_na1 : (0 : Int) ≤ na1 ∧ na1 ≤ 200 := ex_na1 ▸ hWx.1 28
      have b_vi1 : (0 : Int) ≤ vi1 ∧ vi1 ≤ 202 := ex_vi1 ▸ hWx.1 29
      refine jx_ld (pc' := 28) (l' := L) (st' := [.ref 66]) rfl (jl_aloadn gL_0) ?_
      refine jx_vr (pc' := 31) (as := []) (st := []) rfl rfl rfl rfl ⟨rfl, rfl, Nat.le_of_ble_eq_true rfl⟩ rfl rfl (c_bad (dd := d) (hd := by omega) (hW := hWx)  (fk := fk1) (e_fk := show Gx 16 = fk1 from (ex_fk1))    ) (fun o V' hq => ?_)
      obtain ⟨r1, rfl, rfl, b2, q3⟩ := hq
      refine .inr ⟨_, rfl, ?_⟩
      rcases q3 with ⟨rfl, a4⟩ | ⟨rfl, a5⟩
      · have _q : True := trivial
        exfalso
        omega
      · have _q : True := trivial
        refine jx_if_ne (pc' := 34) (tg := 98) rfl rfl rfl (by decide) (by decide) (fun h6 => ?_) (fun h6 => ?_)
        · have _q := h6
          exact absurd h6 (by omega)
        · have _q := h6
          refine jx_ld (pc' := 35) (l' := L) (st' := [.ref 66]) rfl (jl_aloadn gL_0) ?_
          refine jx_ar (pc' := 37) (st' := [.int (i32 (9)), .ref 66]) rfl rfl rfl rfl ?_
          have b7 : (-2147483648 : Int) ≤ Gx 13 ∧ Gx 13 ≤ 2147483647 := hWx.1 13
          refine jx_vr (pc' := 40) (as := [.int (i32 (9))]) (st := []) rfl rfl rfl rfl ⟨rfl, rfl, Nat.le_of_ble_eq_true rfl⟩ rfl rfl (c_isKey (dd := d) (hd := by omega) (hW := hWx) (k := 9) (tk := tk1) (e_tk := show Gx 11 = tk1 from (ex_tk1)) (tn := Gx 13) (e_tn := show Gx 13 = Gx 13 from rfl)  (h_k := ⟨(by decide), (by decide)⟩)  ) (fun o V' hq => ?_)
          obtain ⟨r8, rfl, rfl, b9, q10⟩ := hq
          refine .inr ⟨_, rfl, ?_⟩
          rcases q10 with ⟨rfl, a11, a12, a13⟩ | rfl
          · have _q : True := trivial
            refine jx_if_ne (pc' := 43) (tg := 61) rfl rfl rfl (by decide) (by decide) (fun h14 => ?_) (fun h14 => ?_)
            · have _q := h14
              refine jx_ld (pc' := 62) (l' := L) (st' := [.ref 66]) rfl (jl_aloadn gL_0) ?_
              refine jr_get (pc' := 65) (i := 19) (v := .int (i32 (sy1))) rfl rfl (by decide) (rFv_eq (by decide) (show Gx 19 = sy1 from (ex_sy1))) rfl ?_
              refine jx_ld (pc' := 67) (l' := jSto1 L 5 (.int (i32 (sy1)))) (st' := []) rfl rfl ?_
              obtain ⟨L15, eL15⟩ : ∃ q, q = jSto1 L 5 (.int (i32 (sy1))) := ⟨_, rfl⟩
              rw [← eL15]
              have gL15_0 : jGet L15 0 = some (.ref 66) := eL15 ▸ jg_ne (by decide) gL_0 rfl
              have gL15_1 : jGet L15 1 = some (.int (i32 (lv))) := eL15 ▸ jg_ne (by decide) gL_1 rfl
              have gL15_2 : jGet L15 2 = some (.int (i32 (vi))) := eL15 ▸ jg_ne (by decide) gL_2 rfl
              have gL15_3 : jGet L15 3 = some (.int (i32 (sy))) := eL15 ▸ jg_ne (by decide) gL_3 rfl
              have gL15_4 : jGet L15 4 = some (.int (i32 (dc))) := eL15 ▸ jg_ne (by decide) gL_4 rfl
              have gL15_5 : jGet L15 5 = some (.int (i32 (sy1))) := eL15 ▸ jg_eq
              refine jx_ld (pc' := 68) (l' := L15) (st' := [.ref 66]) rfl (jl_aloadn gL15_0) ?_
              refine jx_vr (pc' := 71) (as := []) (st := []) rfl rfl rfl rfl ⟨rfl, rfl, Nat.le_of_ble_eq_true rfl⟩ rfl rfl (c_readDeclaration (dd := d) (hd := by omega) (hW := hWx)  (ln := ln1) (e_ln := show Gx 9 = ln1 from (ex_ln1)) (le := le1) (e_le := show Ax 4 (ln1).toNat = le1 from (ex_le1)) (at0 := at1) (e_at0 := show Gx 10 = at1 from (ex_at1)) (fk := fk1) (e_fk := show Gx 16 = fk1 from (ex_fk1)) (tk0 := tk1) (e_tk0 := show Gx 11 = tk1 from (ex_tk1)) (li := li) (e_li := show Gx 3 = li from ((hFx.1 3 rfl).trans (e_li))) (sy := sy1) (e_sy := show Gx 19 = sy1 from (ex_sy1)) (na := na1) (e_na := show Gx 28 = na1 from (ex_na1)) (vi := vi1) (e_vi := show Gx 29 = vi1 from (ex_vi1))    (p_0 := by omega) (p_1 := by omega) (p_2 := by omega) (p_3 := by omega) (p_4 := by omega)) (fun o V' hq => ?_)
              obtain ⟨G16, A17, at2_18, fk2_19, ln2_20, sy2_21, na2_22, vi2_23, rfl, rfl, hW24, hF25, e26, e27, e28, e29, e30, e31, p32, p33, p34, p35, p36, p37, q38⟩ := hq
              have hF39 := Fr_tr hFx hF25 (Fr_sub (by decide)) (Fr_sub (by decide))
              have hP40 := Pf_f hPx hF25 (by decide)
              have bat2_18 : (0 : Int) ≤ at2_18 ∧ at2_18 ≤ 3002 := e26 ▸ hW24.1 10
              have bfk2_19 : (0 : Int) ≤ fk2_19 ∧ fk2_19 ≤ 6 := e27 ▸ hW24.1 16
              have bln2_20 : (0 : Int) ≤ ln2_20 ∧ ln2_20 ≤ 3000 := e28 ▸ hW24.1 9
              have bsy2_21 : (0 : Int) ≤ sy2_21 ∧ sy2_21 ≤ 202 := e29 ▸ hW24.1 19
              have bna2_22 : (0 : Int) ≤ na2_22 ∧ na2_22 ≤ 200 := e30 ▸ hW24.1 28
              have bvi2_23 : (0 : Int) ≤ vi2_23 ∧ vi2_23 ≤ 202 := e31 ▸ hW24.1 29
              refine .inl ⟨rfl, ?_⟩
              rcases q38 with ⟨a41, a42⟩ | ⟨a43, a44⟩
              · have _q : True := trivial
                refine jx_ld (pc' := 73) (l' := L15) (st' := [.int (i32 (dc))]) rfl (jl_iload gL15_4) ?_
                refine jx_ld (pc' := 74) (l' := L15) (st' := [.ref 66, .int (i32 (dc))]) rfl (jl_aloadn gL15_0) ?_
                refine jr_get (pc' := 77) (i := 19) (v := .int (i32 (sy2_21))) rfl rfl (by decide) (rFv_eq (by decide) (show G16 19 = sy2_21 from (e29))) rfl ?_
                refine jx_add (pc' := 78) rfl rfl ?_
                refine jx_ld (pc' := 80) (l' := L15) (st' := [.int (i32 (sy1)), .int (i32 ((dc + sy2_21)))]) rfl (jl_iload gL15_5) ?_
                refine jx_sub (pc' := 81) rfl rfl ?_
                refine jx_ld (pc' := 83) (l' := jSto1 L15 4 (.int (i32 (((dc + sy2_21) - sy1))))) (st' := []) rfl rfl ?_
                obtain ⟨L45, eL45⟩ : ∃ q, q = jSto1 L15 4 (.int (i32 (((dc + sy2_21) - sy1)))) := ⟨_, rfl⟩
                rw [← eL45]
                have gL45_0 : jGet L45 0 = some (.ref 66) := eL45 ▸ jg_ne (by decide) gL15_0 rfl
                have gL45_1 : jGet L45 1 = some (.int (i32 (lv))) := eL45 ▸ jg_ne (by decide) gL15_1 rfl
                have gL45_2 : jGet L45 2 = some (.int (i32 (vi))) := eL45 ▸ jg_ne (by decide) gL15_2 rfl
                have gL45_3 : jGet L45 3 = some (.int (i32 (sy))) := eL45 ▸ jg_ne (by decide) gL15_3 rfl
                have gL45_5 : jGet L45 5 = some (.int (i32 (sy1))) := eL45 ▸ jg_ne (by decide) gL15_5 rfl
                have gL45_4 : jGet L45 4 = some (.int (i32 (((dc + sy2_21) - sy1)))) := eL45 ▸ jg_eq
                refine jx_ld (pc' := 84) (l' := L45) (st' := [.ref 66]) rfl (jl_aloadn gL45_0) ?_
                refine jx_ld (pc' := 85) (l' := L45) (st' := [.int (i32 (lv)), .ref 66]) rfl (jl_iloadn gL45_1) ?_
                have b46 : (-1 : Int) ≤ A 5 (ln2_20).toNat ∧ A 5 (ln2_20).toNat ≤ 15 := hW.2 5 _
                refine jx_vr (pc' := 88) (as := [.int (i32 (lv))]) (st := []) rfl rfl rfl rfl ⟨rfl, rfl, Nat.le_of_ble_eq_true rfl⟩ rfl rfl (c_needLevel (dd := d) (hd := by omega) (hW := hW24) (lv := lv) (ln := ln2_20) (e_ln := show G16 9 = ln2_20 from (e28)) (li := li) (e_li := show G16 3 = li from ((hF25.1 3 rfl).trans ((hFx.1 3 rfl).trans (e_li)))) (fk := fk2_19) (e_fk := show G16 16 = fk2_19 from (e27)) (ll := A 5 (ln2_20).toNat) (e_ll := show A17 5 (ln2_20).toNat = A 5 (ln2_20).toNat from (congrFun ((hF25.2 5 rfl).trans (hFx.2 5 rfl)) _))  (h_lv := ⟨(Int.le_trans (by decide : (-2147483648 : Int) ≤ -2147483648) h_lv.1), (Int.le_trans h_lv.2 (by decide : (2147483647 : Int) ≤ 2147483647))⟩)  ) (fun o V' hq => ?_)
                obtain ⟨G47, A48, r49, fk2_50, rfl, rfl, hW51, hF52, b53, e54, q55⟩ := hq
                have hF56 := Fr_tr hF39 hF52 (Fr_sub (by decide)) (Fr_sub (by decide))
                have hP57 := Pf_f hP40 hF52 (by decide)
                have bfk2_50 : (0 : Int) ≤ fk2_50 ∧ fk2_50 ≤ 6 := e54 ▸ hW51.1 16
                refine .inr ⟨_, rfl, ?_⟩
                rcases q55 with ⟨rfl, a58, a59, a60, a61⟩ | ⟨rfl, a62⟩
                · have _q : True := trivial
                  exfalso
                  omega
                · have _q : True := trivial
                  refine jx_if_eq (pc' := 91) (tg := 95) rfl rfl rfl (by decide) (by decide) (fun h63 => ?_) (fun h63 => ?_)
                  · have _q := h63
                    refine jx_go (tg := 27) rfl rfl ?_
                    refine jx_ld (pc' := 28) (l' := L45) (st' := [.ref 66]) rfl (jl_aloadn gL45_0) ?_
                    refine jx_vr (pc' := 31) (as := []) (st := []) rfl rfl rfl rfl ⟨rfl, rfl, Nat.le_of_ble_eq_true rfl⟩ rfl rfl (c_bad (dd := d) (hd := by omega) (hW := hW51)  (fk := fk2_50) (e_fk := show G47 16 = fk2_50 from (e54))    ) (fun o V' hq => ?_)
                    obtain ⟨r64, rfl, rfl, b65, q66⟩ := hq
                    refine .inr ⟨_, rfl, ?_⟩
                    rcases q66 with ⟨rfl, a67⟩ | ⟨rfl, a68⟩
                    · have _q : True := trivial
                      refine jx_if_ne (pc' := 34) (tg := 98) rfl rfl rfl (by decide) (by decide) (fun h69 => ?_) (fun h69 => ?_)
                      · have _q := h69
                        refine jx_ld (pc' := 99) (l' := L45) (st' := [.ref 66]) rfl (jl_aloadn gL45_0) ?_
                        refine jx_vr (pc' := 102) (as := []) (st := []) rfl rfl rfl rfl ⟨rfl, rfl, Nat.le_of_ble_eq_true rfl⟩ rfl rfl (c_bad (dd := d) (hd := by omega) (hW := hW51)  (fk := fk2_50) (e_fk := show G47 16 = fk2_50 from (e54))    ) (fun o V' hq => ?_)
                        obtain ⟨r70, rfl, rfl, b71, q72⟩ := hq
                        refine .inr ⟨_, rfl, ?_⟩
                        rcases q72 with ⟨rfl, a73⟩ | ⟨rfl, a74⟩
                        · have _q : True := trivial
                          refine jx_if_eq (pc' := 105) (tg := 109) rfl rfl rfl (by decide) (by decide) (fun h75 => ?_) (fun h75 => ?_)
                          · have _q := h75
                            exact absurd h75 (by omega)
                          · have _q := h75
                            refine jx_ar (pc' := 106) (st' := [.int (i32 (0))]) rfl rfl rfl rfl ?_
                            refine jx_go (tg := 114) rfl rfl ?_
                            refine jx_ld (pc' := 116) (l' := jSto1 L45 5 (.int (i32 (0)))) (st' := []) rfl rfl ?_
                            obtain ⟨L76, eL76⟩ : ∃ q, q = jSto1 L45 5 (.int (i32 (0))) := ⟨_, rfl⟩
                            rw [← eL76]
                            have gL76_0 : jGet L76 0 = some (.ref 66) := eL76 ▸ jg_ne (by decide) gL45_0 rfl
                            have gL76_1 : jGet L76 1 = some (.int (i32 (lv))) := eL76 ▸ jg_ne (by decide) gL45_1 rfl
                            have gL76_2 : jGet L76 2 = some (.int (i32 (vi))) := eL76 ▸ jg_ne (by decide) gL45_2 rfl
                            have gL76_3 : jGet L76 3 = some (.int (i32 (sy))) := eL76 ▸ jg_ne (by decide) gL45_3 rfl
                            have gL76_4 : jGet L76 4 = some (.int (i32 (((dc + sy2_21) - sy1)))) := eL76 ▸ jg_ne (by decide) gL45_4 rfl
                            have gL76_5 : jGet L76 5 = some (.int (i32 (0))) := eL76 ▸ jg_eq
                            refine jx_ld (pc' := 117) (l' := L76) (st' := [.ref 66]) rfl (jl_aloadn gL76_0) ?_
                            refine jx_vr (pc' := 120) (as := []) (st := []) rfl rfl rfl rfl ⟨rfl, rfl, Nat.le_of_ble_eq_true rfl⟩ rfl rfl (c_bad (dd := d) (hd := by omega) (hW := hW51)  (fk := fk2_50) (e_fk := show G47 16 = fk2_50 from (e54))    ) (fun o V' hq => ?_)
                            obtain ⟨r77, rfl, rfl, b78, q79⟩ := hq
                            refine .inr ⟨_, rfl, ?_⟩
                            rcases q79 with ⟨rfl, a80⟩ | ⟨rfl, a81⟩
                            · have _q : True := trivial
                              refine jx_if_ne (pc' := 123) (tg := 140) rfl rfl rfl (by decide) (by decide) (fun h82 => ?_) (fun h82 => ?_)
                              · have _q := h82
                                refine jx_ld (pc' := 141) (l' := L76) (st' := [.ref 66]) rfl (jl_aloadn gL76_0) ?_
                                refine jx_ld (pc' := 142) (l' := L76) (st' := [.int (i32 (vi)), .ref 66]) rfl (jl_iloadn gL76_2) ?_
                                refine jr_put (pc' := 145) (i := 29) (z := vi) rfl rfl (by decide) rfl rfl rfl rfl rfl rfl ?_
                                have hW83 : Wk (uG G47 29 (vi)) A48 := Wk_g hW51 (show (0 : Int) ≤ vi by omega) (show vi ≤ (202 : Int) by omega)
                                have hF84 := Fr_g (z := vi) (i := 29) hF56 (by decide)
                                refine jx_ld (pc' := 147) (l' := L76) (st' := [.int (i32 (0))]) rfl (jl_iload gL76_5) ?_
                                refine jx_rt (v := some (.int (i32 (0)))) rfl rfl rfl rfl rfl rfl ?_
                                exact ⟨_, _, _, ln2_20, at2_18, fk2_50, nd, sy2_21, na2_22, vi, A 3 (ln2_20).toNat, rfl, rfl, hW83, hF84, hP57, by omega, ((hF52.1 9 rfl).trans (e28)), ((hF52.1 10 rfl).trans (e26)), (e54), ((hF52.1 31 rfl).trans ((hF25.1 31 rfl).trans (fx_31))), ((hF52.1 19 rfl).trans (e29)), ((hF52.1 28 rfl).trans (e30)), rfl, (congrFun ((hF52.2 3 rfl).trans ((hF25.2 3 rfl).trans (hFx.2 3 rfl))) _), by omega, by omega, by omega, by omega, by omega, by omega, by omega, by omega, by omega, by first | exact Or.inl (⟨by omega, by omega⟩) | exact Or.inr ((⟨by omega, by omega, by omega, by omega, by omega, by omega⟩))⟩
                              · have _q := h82
                                exact absurd h82 (by omega)
                            · have _q : True := trivial
                              exfalso
                              omega
                        · have _q : True := trivial
                          exfalso
                          omega
                      · have _q := h69
                        exact absurd h69 (by omega)
                    · have _q : True := trivial
                      exfalso
                      omega
                  · have _q := h63
                    exact absurd h63 (by omega)
              · have _q : True := trivial
                have b85 : (0 : Int) ≤ A 3 (ln2_20).toNat ∧ A 3 (ln2_20).toNat ≤ 3000 := hW.2 3 _
                have lt86 : ln2_20 < li → le1 < A 3 (ln2_20).toNat := fun hh => LT_nx (LT_ext (((hF25.1 3 rfl).trans (hFx.1 3 rfl))) (((hF25.2 3 rfl).trans (hFx.2 3 rfl))) (((hF25.2 4 rfl).trans (hFx.2 4 rfl))) i_LT) (show G16 3 = li from ((hF25.1 3 rfl).trans ((hFx.1 3 rfl).trans (e_li)))) (show A17 4 (ln1).toNat = le1 from (congrFun (hF25.2 4 rfl) _).trans (ex_le1)) (show A17 3 (ln2_20).toNat = A 3 (ln2_20).toNat from (congrFun ((hF25.2 3 rfl).trans (hFx.2 3 rfl)) _)) (show ln2_20 = ln1 + 1 by omega) (by omega) hh
                refine jx_ld (pc' := 73) (l' := L15) (st' := [.int (i32 (dc))]) rfl (jl_iload gL15_4) ?_
                refine jx_ld (pc' := 74) (l' := L15) (st' := [.ref 66, .int (i32 (dc))]) rfl (jl_aloadn gL15_0) ?_
                refine jr_get (pc' := 77) (i := 19) (v := .int (i32 (sy2_21))) rfl rfl (by decide) (rFv_eq (by decide) (show G16 19 = sy2_21 from (e29))) rfl ?_
                refine jx_add (pc' := 78) rfl rfl ?_
                refine jx_ld (pc' := 80) (l' := L15) (st' := [.int (i32 (sy1)), .int (i32 ((dc + sy2_21)))]) rfl (jl_iload gL15_5) ?_
                refine jx_sub (pc' := 81) rfl rfl ?_
                refine jx_ld (pc' := 83) (l' := jSto1 L15 4 (.int (i32 (((dc + sy2_21) - sy1))))) (st' := []) rfl rfl ?_
                obtain ⟨L87, eL87⟩ : ∃ q, q = jSto1 L15 4 (.int (i32 (((dc + sy2_21) - sy1)))) := ⟨_, rfl⟩
                rw [← eL87]
                have gL87_0 : jGet L87 0 = some (.ref 66) := eL87 ▸ jg_ne (by decide) gL15_0 rfl
                have gL87_1 : jGet L87 1 = some (.int (i32 (lv))) := eL87 ▸ jg_ne (by decide) gL15_1 rfl
                have gL87_2 : jGet L87 2 = some (.int (i32 (vi))) := eL87 ▸ jg_ne (by decide) gL15_2 rfl
                have gL87_3 : jGet L87 3 = some (.int (i32 (sy))) := eL87 ▸ jg_ne (by decide) gL15_3 rfl
                have gL87_5 : jGet L87 5 = some (.int (i32 (sy1))) := eL87 ▸ jg_ne (by decide) gL15_5 rfl
                have gL87_4 : jGet L87 4 = some (.int (i32 (((dc + sy2_21) - sy1)))) := eL87 ▸ jg_eq
                refine jx_ld (pc' := 84) (l' := L87) (st' := [.ref 66]) rfl (jl_aloadn gL87_0) ?_
                refine jx_ld (pc' := 85) (l' := L87) (st' := [.int (i32 (lv)), .ref 66]) rfl (jl_iloadn gL87_1) ?_
                have b88 : (-1 : Int) ≤ A 5 (ln2_20).toNat ∧ A 5 (ln2_20).toNat ≤ 15 := hW.2 5 _
                refine jx_vr (pc' := 88) (as := [.int (i32 (lv))]) (st := []) rfl rfl rfl rfl ⟨rfl, rfl, Nat.le_of_ble_eq_true rfl⟩ rfl rfl (c_needLevel (dd := d) (hd := by omega) (hW := hW24) (lv := lv) (ln := ln2_20) (e_ln := show G16 9 = ln2_20 from (e28)) (li := li) (e_li := show G16 3 = li from ((hF25.1 3 rfl).trans ((hFx.1 3 rfl).trans (e_li)))) (fk := fk2_19) (e_fk := show G16 16 = fk2_19 from (e27)) (ll := A 5 (ln2_20).toNat) (e_ll := show A17 5 (ln2_20).toNat = A 5 (ln2_20).toNat from (congrFun ((hF25.2 5 rfl).trans (hFx.2 5 rfl)) _))  (h_lv := ⟨(Int.le_trans (by decide : (-2147483648 : Int) ≤ -2147483648) h_lv.1), (Int.le_trans h_lv.2 (by decide : (2147483647 : Int) ≤ 2147483647))⟩)  ) (fun o V' hq => ?_)
                obtain ⟨G89, A90, r91, fk2_92, rfl, rfl, hW93, hF94, b95, e96, q97⟩ := hq
                have hF98 := Fr_tr hF39 hF94 (Fr_sub (by decide)) (Fr_sub (by decide))
                have hP99 := Pf_f hP40 hF94 (by decide)
                have bfk2_92 : (0 : Int) ≤ fk2_92 ∧ fk2_92 ≤ 6 := e96 ▸ hW93.1 16
                refine .inr ⟨_, rfl, ?_⟩
                rcases q97 with ⟨rfl, a100, a101, a102, a103⟩ | ⟨rfl, a104⟩
                · have _q : True := trivial
                  have b105 : (0 : Int) ≤ A 4 (ln2_20).toNat ∧ A 4 (ln2_20).toNat ≤ 3000 := hW.2 4 _
                  have lt106 : A 3 (ln2_20).toNat < A 4 (ln2_20).toNat := LT_at (LT_ext (((hF94.1 3 rfl).trans ((hF25.1 3 rfl).trans (hFx.1 3 rfl)))) (((hF94.2 3 rfl).trans ((hF25.2 3 rfl).trans (hFx.2 3 rfl)))) (((hF94.2 4 rfl).trans ((hF25.2 4 rfl).trans (hFx.2 4 rfl)))) i_LT) (show G89 3 = li from ((hF94.1 3 rfl).trans ((hF25.1 3 rfl).trans ((hFx.1 3 rfl).trans (e_li))))) (show A90 3 (ln2_20).toNat = A 3 (ln2_20).toNat from (congrFun ((hF94.2 3 rfl).trans ((hF25.2 3 rfl).trans (hFx.2 3 rfl))) _)) (show A90 4 (ln2_20).toNat = A 4 (ln2_20).toNat from (congrFun ((hF94.2 4 rfl).trans ((hF25.2 4 rfl).trans (hFx.2 4 rfl))) _)) (by omega) (by omega)
                  refine jx_if_eq (pc' := 91) (tg := 95) rfl rfl rfl (by decide) (by decide) (fun h107 => ?_) (fun h107 => ?_)
                  · have _q := h107
                    exact absurd h107 (by omega)
                  · have _q := h107
                    refine jx_ld (pc' := 92) (l' := L87) (st' := [.ref 66]) rfl (jl_aloadn gL87_0) ?_
                    refine jx_vr (pc' := 95) (as := []) (st := []) rfl rfl rfl rfl ⟨rfl, rfl, Nat.le_of_ble_eq_true rfl⟩ rfl rfl (c_openLine (dd := d) (hd := by omega) (hW := hW93)  (ln := ln2_20) (e_ln := show G89 9 = ln2_20 from ((hF94.1 9 rfl).trans (e28))) (le := A 4 (ln2_20).toNat) (e_le := show A90 4 (ln2_20).toNat = A 4 (ln2_20).toNat from (congrFun ((hF94.2 4 rfl).trans ((hF25.2 4 rfl).trans (hFx.2 4 rfl))) _)) (lf := A 3 (ln2_20).toNat) (e_lf := show A90 3 (ln2_20).toNat = A 3 (ln2_20).toNat from (congrFun ((hF94.2 3 rfl).trans ((hF25.2 3 rfl).trans (hFx.2 3 rfl))) _))    (p_0 := by omega)) (fun o V' hq => ?_)
                    obtain ⟨G108, A109, at2_110, tk2_111, op2_112, rfl, rfl, hW113, hF114, e115, e116, e117, p118, p119, p120, p121, -⟩ := hq
                    have hF123 := Fr_tr hF98 hF114 (Fr_sub (by decide)) (Fr_sub (by decide))
                    have hP124 := Pf_f hP99 hF114 (by decide)
                    have bat2_110 : (0 : Int) ≤ at2_110 ∧ at2_110 ≤ 3002 := e115 ▸ hW113.1 10
                    have ztk2_111 := tz_b tk2_111
                    have btk2_111 : (0 : Int) ≤ tk2_111 ∧ tk2_111 ≤ 5 := e116 ▸ hW113.1 11
                    have bop2_112 : (-2147483648 : Int) ≤ op2_112 ∧ op2_112 ≤ 2147483647 := e117 ▸ hW113.1 15
                    refine .inl ⟨rfl, ?_⟩
                    refine jx_go (tg := 27) rfl rfl ?_
                    have z125 := tz_f (tk2_111)
                    exact ih27 _ (by omega) L87 G108 A109 (((dc + sy2_21) - sy1)) (ln2_20) (at2_110) (tk2_111) (fk2_92) (op2_112) (sy2_21) (na2_22) (vi2_23) (A 4 (ln2_20).toNat) rfl gL87_0 gL87_1 gL87_2 gL87_3 gL87_4 hW113 hF123 hP124 (((hF114.1 9 rfl).trans ((hF94.1 9 rfl).trans (e28)))) ((e115)) ((e116)) (((hF114.1 16 rfl).trans (e96))) ((e117)) (((hF114.1 19 rfl).trans ((hF94.1 19 rfl).trans (e29)))) (((hF114.1 28 rfl).trans ((hF94.1 28 rfl).trans (e30)))) (((hF114.1 29 rfl).trans ((hF94.1 29 rfl).trans (e31)))) ((congrFun ((hF114.2 4 rfl).trans ((hF94.2 4 rfl).trans ((hF25.2 4 rfl).trans (hFx.2 4 rfl)))) _)) (((hF114.1 31 rfl).trans ((hF94.1 31 rfl).trans ((hF25.1 31 rfl).trans (fx_31))))) (by omega) (by omega) (by omega) (by omega) (by omega) (by omega) (by omega) (by omega) (by omega) (by omega) (by omega) (by omega) (by omega)
                · have _q : True := trivial
                  refine jx_if_eq (pc' := 91) (tg := 95) rfl rfl rfl (by decide) (by decide) (fun h126 => ?_) (fun h126 => ?_)
                  · have _q := h126
                    refine jx_go (tg := 27) rfl rfl ?_
                    refine jx_ld (pc' := 28) (l' := L87) (st' := [.ref 66]) rfl (jl_aloadn gL87_0) ?_
                    refine jx_vr (pc' := 31) (as := []) (st := []) rfl rfl rfl rfl ⟨rfl, rfl, Nat.le_of_ble_eq_true rfl⟩ rfl rfl (c_bad (dd := d) (hd := by omega) (hW := hW93)  (fk := fk2_92) (e_fk := show G89 16 = fk2_92 from (e96))    ) (fun o V' hq => ?_)
                    obtain ⟨r127, rfl, rfl, b128, q129⟩ := hq
                    refine .inr ⟨_, rfl, ?_⟩
                    rcases q129 with ⟨rfl, a130⟩ | ⟨rfl, a131⟩
                    · have _q : True := trivial
                      refine jx_if_ne (pc' := 34) (tg := 98) rfl rfl rfl (by decide) (by decide) (fun h132 => ?_) (fun h132 => ?_)
                      · have _q := h132
                        refine jx_ld (pc' := 99) (l' := L87) (st' := [.ref 66]) rfl (jl_aloadn gL87_0) ?_
                        refine jx_vr (pc' := 102) (as := []) (st := []) rfl rfl rfl rfl ⟨rfl, rfl, Nat.le_of_ble_eq_true rfl⟩ rfl rfl (c_bad (dd := d) (hd := by omega) (hW := hW93)  (fk := fk2_92) (e_fk := show G89 16 = fk2_92 from (e96))    ) (fun o V' hq => ?_)
                        obtain ⟨r133, rfl, rfl, b134, q135⟩ := hq
                        refine .inr ⟨_, rfl, ?_⟩
                        rcases q135 with ⟨rfl, a136⟩ | ⟨rfl, a137⟩
                        · have _q : True := trivial
                          refine jx_if_eq (pc' := 105) (tg := 109) rfl rfl rfl (by decide) (by decide) (fun h138 => ?_) (fun h138 => ?_)
                          · have _q := h138
                            exact absurd h138 (by omega)
                          · have _q := h138
                            refine jx_ar (pc' := 106) (st' := [.int (i32 (0))]) rfl rfl rfl rfl ?_
                            refine jx_go (tg := 114) rfl rfl ?_
                            refine jx_ld (pc' := 116) (l' := jSto1 L87 5 (.int (i32 (0)))) (st' := []) rfl rfl ?_
                            obtain ⟨L139, eL139⟩ : ∃ q, q = jSto1 L87 5 (.int (i32 (0))) := ⟨_, rfl⟩
                            rw [← eL139]
                            have gL139_0 : jGet L139 0 = some (.ref 66) := eL139 ▸ jg_ne (by decide) gL87_0 rfl
                            have gL139_1 : jGet L139 1 = some (.int (i32 (lv))) := eL139 ▸ jg_ne (by decide) gL87_1 rfl
                            have gL139_2 : jGet L139 2 = some (.int (i32 (vi))) := eL139 ▸ jg_ne (by decide) gL87_2 rfl
                            have gL139_3 : jGet L139 3 = some (.int (i32 (sy))) := eL139 ▸ jg_ne (by decide) gL87_3 rfl
                            have gL139_4 : jGet L139 4 = some (.int (i32 (((dc + sy2_21) - sy1)))) := eL139 ▸ jg_ne (by decide) gL87_4 rfl
                            have gL139_5 : jGet L139 5 = some (.int (i32 (0))) := eL139 ▸ jg_eq
                            refine jx_ld (pc' := 117) (l' := L139) (st' := [.ref 66]) rfl (jl_aloadn gL139_0) ?_
                            refine jx_vr (pc' := 120) (as := []) (st := []) rfl rfl rfl rfl ⟨rfl, rfl, Nat.le_of_ble_eq_true rfl⟩ rfl rfl (c_bad (dd := d) (hd := by omega) (hW := hW93)  (fk := fk2_92) (e_fk := show G89 16 = fk2_92 from (e96))    ) (fun o V' hq => ?_)
                            obtain ⟨r140, rfl, rfl, b141, q142⟩ := hq
                            refine .inr ⟨_, rfl, ?_⟩
                            rcases q142 with ⟨rfl, a143⟩ | ⟨rfl, a144⟩
                            · have _q : True := trivial
                              refine jx_if_ne (pc' := 123) (tg := 140) rfl rfl rfl (by decide) (by decide) (fun h145 => ?_) (fun h145 => ?_)
                              · have _q := h145
                                refine jx_ld (pc' := 141) (l' := L139) (st' := [.ref 66]) rfl (jl_aloadn gL139_0) ?_
                                refine jx_ld (pc' := 142) (l' := L139) (st' := [.int (i32 (vi)), .ref 66]) rfl (jl_iloadn gL139_2) ?_
                                refine jr_put (pc' := 145) (i := 29) (z := vi) rfl rfl (by decide) rfl rfl rfl rfl rfl rfl ?_
                                have hW146 : Wk (uG G89 29 (vi)) A90 := Wk_g hW93 (show (0 : Int) ≤ vi by omega) (show vi ≤ (202 : Int) by omega)
                                have hF147 := Fr_g (z := vi) (i := 29) hF98 (by decide)
                                refine jx_ld (pc' := 147) (l' := L139) (st' := [.int (i32 (0))]) rfl (jl_iload gL139_5) ?_
                                refine jx_rt (v := some (.int (i32 (0)))) rfl rfl rfl rfl rfl rfl ?_
                                exact ⟨_, _, _, ln2_20, at2_18, fk2_92, nd, sy2_21, na2_22, vi, A 3 (ln2_20).toNat, rfl, rfl, hW146, hF147, hP99, by omega, ((hF94.1 9 rfl).trans (e28)), ((hF94.1 10 rfl).trans (e26)), (e96), ((hF94.1 31 rfl).trans ((hF25.1 31 rfl).trans (fx_31))), ((hF94.1 19 rfl).trans (e29)), ((hF94.1 28 rfl).trans (e30)), rfl, (congrFun ((hF94.2 3 rfl).trans ((hF25.2 3 rfl).trans (hFx.2 3 rfl))) _), by omega, by omega, by omega, by omega, by omega, by omega, by omega, by omega, by omega, by first | exact Or.inl (⟨by omega, by omega⟩) | exact Or.inr ((⟨by omega, by omega, by omega, by omega, by omega, by omega⟩))⟩
                              · have _q := h145
                                exact absurd h145 (by omega)
                            · have _q : True := trivial
                              exfalso
                              omega
                        · have _q : True := trivial
                          exfalso
                          omega
                      · have _q := h132
                        exact absurd h132 (by omega)
                    · have _q : True := trivial
                      exfalso
                      omega
                  · have _q := h126
                    exact absurd h126 (by omega)
            · have _q := h14
              exact absurd h14 (by omega)
          · have _q : True := trivial
            refine jx_if_ne (pc' := 43) (tg := 61) rfl rfl rfl (by decide) (by decide) (fun h148 => ?_) (fun h148 => ?_)
            · have _q := h148
              exact absurd h148 (by omega)
            · have _q := h148
              refine jx_ld (pc' := 44) (l' := L) (st' := [.ref 66]) rfl (jl_aloadn gL_0) ?_
              refine jx_ar (pc' := 46) (st' := [.int (i32 (10)), .ref 66]) rfl rfl rfl rfl ?_
              refine jx_vr (pc' := 49) (as := [.int (i32 (10))]) (st := []) rfl rfl rfl rfl ⟨rfl, rfl, Nat.le_of_ble_eq_true rfl⟩ rfl rfl (c_isKey (dd := d) (hd := by omega) (hW := hWx) (k := 10) (tk := tk1) (e_tk := show Gx 11 = tk1 from (ex_tk1)) (tn := Gx 13) (e_tn := show Gx 13 = Gx 13 from rfl)  (h_k := ⟨(by decide), (by decide)⟩)  ) (fun o V' hq => ?_)
              obtain ⟨r149, rfl, rfl, b150, q151⟩ := hq
              refine .inr ⟨_, rfl, ?_⟩
              rcases q151 with ⟨rfl, a152, a153, a154⟩ | rfl
              · have _q : True := trivial
                refine jx_if_ne (pc' := 52) (tg := 61) rfl rfl rfl (by decide) (by decide) (fun h155 => ?_) (fun h155 => ?_)
                · have _q := h155
                  refine jx_ld (pc' := 62) (l' := L) (st' := [.ref 66]) rfl (jl_aloadn gL_0) ?_
                  refine jr_get (pc' := 65) (i := 19) (v := .int (i32 (sy1))) rfl rfl (by decide) (rFv_eq (by decide) (show Gx 19 = sy1 from (ex_sy1))) rfl ?_
                  refine jx_ld (pc' := 67) (l' := jSto1 L 5 (.int (i32 (sy1)))) (st' := []) rfl rfl ?_
                  obtain ⟨L156, eL156⟩ : ∃ q, q = jSto1 L 5 (.int (i32 (sy1))) := ⟨_, rfl⟩
                  rw [← eL156]
                  have gL156_0 : jGet L156 0 = some (.ref 66) := eL156 ▸ jg_ne (by decide) gL_0 rfl
                  have gL156_1 : jGet L156 1 = some (.int (i32 (lv))) := eL156 ▸ jg_ne (by decide) gL_1 rfl
                  have gL156_2 : jGet L156 2 = some (.int (i32 (vi))) := eL156 ▸ jg_ne (by decide) gL_2 rfl
                  have gL156_3 : jGet L156 3 = some (.int (i32 (sy))) := eL156 ▸ jg_ne (by decide) gL_3 rfl
                  have gL156_4 : jGet L156 4 = some (.int (i32 (dc))) := eL156 ▸ jg_ne (by decide) gL_4 rfl
                  have gL156_5 : jGet L156 5 = some (.int (i32 (sy1))) := eL156 ▸ jg_eq
                  refine jx_ld (pc' := 68) (l' := L156) (st' := [.ref 66]) rfl (jl_aloadn gL156_0) ?_
                  refine jx_vr (pc' := 71) (as := []) (st := []) rfl rfl rfl rfl ⟨rfl, rfl, Nat.le_of_ble_eq_true rfl⟩ rfl rfl (c_readDeclaration (dd := d) (hd := by omega) (hW := hWx)  (ln := ln1) (e_ln := show Gx 9 = ln1 from (ex_ln1)) (le := le1) (e_le := show Ax 4 (ln1).toNat = le1 from (ex_le1)) (at0 := at1) (e_at0 := show Gx 10 = at1 from (ex_at1)) (fk := fk1) (e_fk := show Gx 16 = fk1 from (ex_fk1)) (tk0 := tk1) (e_tk0 := show Gx 11 = tk1 from (ex_tk1)) (li := li) (e_li := show Gx 3 = li from ((hFx.1 3 rfl).trans (e_li))) (sy := sy1) (e_sy := show Gx 19 = sy1 from (ex_sy1)) (na := na1) (e_na := show Gx 28 = na1 from (ex_na1)) (vi := vi1) (e_vi := show Gx 29 = vi1 from (ex_vi1))    (p_0 := by omega) (p_1 := by omega) (p_2 := by omega) (p_3 := by omega) (p_4 := by omega)) (fun o V' hq => ?_)
                  obtain ⟨G157, A158, at2_159, fk2_160, ln2_161, sy2_162, na2_163, vi2_164, rfl, rfl, hW165, hF166, e167, e168, e169, e170, e171, e172, p173, p174, p175, p176, p177, p178, q179⟩ := hq
                  have hF180 := Fr_tr hFx hF166 (Fr_sub (by decide)) (Fr_sub (by decide))
                  have hP181 := Pf_f hPx hF166 (by decide)
                  have bat2_159 : (0 : Int) ≤ at2_159 ∧ at2_159 ≤ 3002 := e167 ▸ hW165.1 10
                  have bfk2_160 : (0 : Int) ≤ fk2_160 ∧ fk2_160 ≤ 6 := e168 ▸ hW165.1 16
                  have bln2_161 : (0 : Int) ≤ ln2_161 ∧ ln2_161 ≤ 3000 := e169 ▸ hW165.1 9
                  have bsy2_162 : (0 : Int) ≤ sy2_162 ∧ sy2_162 ≤ 202 := e170 ▸ hW165.1 19
                  have bna2_163 : (0 : Int) ≤ na2_163 ∧ na2_163 ≤ 200 := e171 ▸ hW165.1 28
                  have bvi2_164 : (0 : Int) ≤ vi2_164 ∧ vi2_164 ≤ 202 := e172 ▸ hW165.1 29
                  refine .inl ⟨rfl, ?_⟩
                  rcases q179 with ⟨a182, a183⟩ | ⟨a184, a185⟩
                  · have _q : True := trivial
                    refine jx_ld (pc' := 73) (l' := L156) (st' := [.int (i32 (dc))]) rfl (jl_iload gL156_4) ?_
                    refine jx_ld (pc' := 74) (l' := L156) (st' := [.ref 66, .int (i32 (dc))]) rfl (jl_aloadn gL156_0) ?_
                    refine jr_get (pc' := 77) (i := 19) (v := .int (i32 (sy2_162))) rfl rfl (by decide) (rFv_eq (by decide) (show G157 19 = sy2_162 from (e170))) rfl ?_
                    refine jx_add (pc' := 78) rfl rfl ?_
                    refine jx_ld (pc' := 80) (l' := L156) (st' := [.int (i32 (sy1)), .int (i32 ((dc + sy2_162)))]) rfl (jl_iload gL156_5) ?_
                    refine jx_sub (pc' := 81) rfl rfl ?_
                    refine jx_ld (pc' := 83) (l' := jSto1 L156 4 (.int (i32 (((dc + sy2_162) - sy1))))) (st' := []) rfl rfl ?_
                    obtain ⟨L186, eL186⟩ : ∃ q, q = jSto1 L156 4 (.int (i32 (((dc + sy2_162) - sy1)))) := ⟨_, rfl⟩
                    rw [← eL186]
                    have gL186_0 : jGet L186 0 = some (.ref 66) := eL186 ▸ jg_ne (by decide) gL156_0 rfl
                    have gL186_1 : jGet L186 1 = some (.int (i32 (lv))) := eL186 ▸ jg_ne (by decide) gL156_1 rfl
                    have gL186_2 : jGet L186 2 = some (.int (i32 (vi))) := eL186 ▸ jg_ne (by decide) gL156_2 rfl
                    have gL186_3 : jGet L186 3 = some (.int (i32 (sy))) := eL186 ▸ jg_ne (by decide) gL156_3 rfl
                    have gL186_5 : jGet L186 5 = some (.int (i32 (sy1))) := eL186 ▸ jg_ne (by decide) gL156_5 rfl
                    have gL186_4 : jGet L186 4 = some (.int (i32 (((dc + sy2_162) - sy1)))) := eL186 ▸ jg_eq
                    refine jx_ld (pc' := 84) (l' := L186) (st' := [.ref 66]) rfl (jl_aloadn gL186_0) ?_
                    refine jx_ld (pc' := 85) (l' := L186) (st' := [.int (i32 (lv)), .ref 66]) rfl (jl_iloadn gL186_1) ?_
                    have b187 : (-1 : Int) ≤ A 5 (ln2_161).toNat ∧ A 5 (ln2_161).toNat ≤ 15 := hW.2 5 _
                    refine jx_vr (pc' := 88) (as := [.int (i32 (lv))]) (st := []) rfl rfl rfl rfl ⟨rfl, rfl, Nat.le_of_ble_eq_true rfl⟩ rfl rfl (c_needLevel (dd := d) (hd := by omega) (hW := hW165) (lv := lv) (ln := ln2_161) (e_ln := show G157 9 = ln2_161 from (e169)) (li := li) (e_li := show G157 3 = li from ((hF166.1 3 rfl).trans ((hFx.1 3 rfl).trans (e_li)))) (fk := fk2_160) (e_fk := show G157 16 = fk2_160 from (e168)) (ll := A 5 (ln2_161).toNat) (e_ll := show A158 5 (ln2_161).toNat = A 5 (ln2_161).toNat from (congrFun ((hF166.2 5 rfl).trans (hFx.2 5 rfl)) _))  (h_lv := ⟨(Int.le_trans (by decide : (-2147483648 : Int) ≤ -2147483648) h_lv.1), (Int.le_trans h_lv.2 (by decide : (2147483647 : Int) ≤ 2147483647))⟩)  ) (fun o V' hq => ?_)
                    obtain ⟨G188, A189, r190, fk2_191, rfl, rfl, hW192, hF193, b194, e195, q196⟩ := hq
                    have hF197 := Fr_tr hF180 hF193 (Fr_sub (by decide)) (Fr_sub (by decide))
                    have hP198 := Pf_f hP181 hF193 (by decide)
                    have bfk2_191 : (0 : Int) ≤ fk2_191 ∧ fk2_191 ≤ 6 := e195 ▸ hW192.1 16
                    refine .inr ⟨_, rfl, ?_⟩
                    rcases q196 with ⟨rfl, a199, a200, a201, a202⟩ | ⟨rfl, a203⟩
                    · have _q : True := trivial
                      exfalso
                      omega
                    · have _q : True := trivial
                      refine jx_if_eq (pc' := 91) (tg := 95) rfl rfl rfl (by decide) (by decide) (fun h204 => ?_) (fun h204 => ?_)
                      · have _q := h204
                        refine jx_go (tg := 27) rfl rfl ?_
                        refine jx_ld (pc' := 28) (l' := L186) (st' := [.ref 66]) rfl (jl_aloadn gL186_0) ?_
                        refine jx_vr (pc' := 31) (as := []) (st := []) rfl rfl rfl rfl ⟨rfl, rfl, Nat.le_of_ble_eq_true rfl⟩ rfl rfl (c_bad (dd := d) (hd := by omega) (hW := hW192)  (fk := fk2_191) (e_fk := show G188 16 = fk2_191 from (e195))    ) (fun o V' hq => ?_)
                        obtain ⟨r205, rfl, rfl, b206, q207⟩ := hq
                        refine .inr ⟨_, rfl, ?_⟩
                        rcases q207 with ⟨rfl, a208⟩ | ⟨rfl, a209⟩
                        · have _q : True := trivial
                          refine jx_if_ne (pc' := 34) (tg := 98) rfl rfl rfl (by decide) (by decide) (fun h210 => ?_) (fun h210 => ?_)
                          · have _q := h210
                            refine jx_ld (pc' := 99) (l' := L186) (st' := [.ref 66]) rfl (jl_aloadn gL186_0) ?_
                            refine jx_vr (pc' := 102) (as := []) (st := []) rfl rfl rfl rfl ⟨rfl, rfl, Nat.le_of_ble_eq_true rfl⟩ rfl rfl (c_bad (dd := d) (hd := by omega) (hW := hW192)  (fk := fk2_191) (e_fk := show G188 16 = fk2_191 from (e195))    ) (fun o V' hq => ?_)
                            obtain ⟨r211, rfl, rfl, b212, q213⟩ := hq
                            refine .inr ⟨_, rfl, ?_⟩
                            rcases q213 with ⟨rfl, a214⟩ | ⟨rfl, a215⟩
                            · have _q : True := trivial
                              refine jx_if_eq (pc' := 105) (tg := 109) rfl rfl rfl (by decide) (by decide) (fun h216 => ?_) (fun h216 => ?_)
                              · have _q := h216
                                exact absurd h216 (by omega)
                              · have _q := h216
                                refine jx_ar (pc' := 106) (st' := [.int (i32 (0))]) rfl rfl rfl rfl ?_
                                refine jx_go (tg := 114) rfl rfl ?_
                                refine jx_ld (pc' := 116) (l' := jSto1 L186 5 (.int (i32 (0)))) (st' := []) rfl rfl ?_
                                obtain ⟨L217, eL217⟩ : ∃ q, q = jSto1 L186 5 (.int (i32 (0))) := ⟨_, rfl⟩
                                rw [← eL217]
                                have gL217_0 : jGet L217 0 = some (.ref 66) := eL217 ▸ jg_ne (by decide) gL186_0 rfl
                                have gL217_1 : jGet L217 1 = some (.int (i32 (lv))) := eL217 ▸ jg_ne (by decide) gL186_1 rfl
                                have gL217_2 : jGet L217 2 = some (.int (i32 (vi))) := eL217 ▸ jg_ne (by decide) gL186_2 rfl
                                have gL217_3 : jGet L217 3 = some (.int (i32 (sy))) := eL217 ▸ jg_ne (by decide) gL186_3 rfl
                                have gL217_4 : jGet L217 4 = some (.int (i32 (((dc + sy2_162) - sy1)))) := eL217 ▸ jg_ne (by decide) gL186_4 rfl
                                have gL217_5 : jGet L217 5 = some (.int (i32 (0))) := eL217 ▸ jg_eq
                                refine jx_ld (pc' := 117) (l' := L217) (st' := [.ref 66]) rfl (jl_aloadn gL217_0) ?_
                                refine jx_vr (pc' := 120) (as := []) (st := []) rfl rfl rfl rfl ⟨rfl, rfl, Nat.le_of_ble_eq_true rfl⟩ rfl rfl (c_bad (dd := d) (hd := by omega) (hW := hW192)  (fk := fk2_191) (e_fk := show G188 16 = fk2_191 from (e195))    ) (fun o V' hq => ?_)
                                obtain ⟨r218, rfl, rfl, b219, q220⟩ := hq
                                refine .inr ⟨_, rfl, ?_⟩
                                rcases q220 with ⟨rfl, a221⟩ | ⟨rfl, a222⟩
                                · have _q : True := trivial
                                  refine jx_if_ne (pc' := 123) (tg := 140) rfl rfl rfl (by decide) (by decide) (fun h223 => ?_) (fun h223 => ?_)
                                  · have _q := h223
                                    refine jx_ld (pc' := 141) (l' := L217) (st' := [.ref 66]) rfl (jl_aloadn gL217_0) ?_
                                    refine jx_ld (pc' := 142) (l' := L217) (st' := [.int (i32 (vi)), .ref 66]) rfl (jl_iloadn gL217_2) ?_
                                    refine jr_put (pc' := 145) (i := 29) (z := vi) rfl rfl (by decide) rfl rfl rfl rfl rfl rfl ?_
                                    have hW224 : Wk (uG G188 29 (vi)) A189 := Wk_g hW192 (show (0 : Int) ≤ vi by omega) (show vi ≤ (202 : Int) by omega)
                                    have hF225 := Fr_g (z := vi) (i := 29) hF197 (by decide)
                                    refine jx_ld (pc' := 147) (l' := L217) (st' := [.int (i32 (0))]) rfl (jl_iload gL217_5) ?_
                                    refine jx_rt (v := some (.int (i32 (0)))) rfl rfl rfl rfl rfl rfl ?_
                                    exact ⟨_, _, _, ln2_161, at2_159, fk2_191, nd, sy2_162, na2_163, vi, A 3 (ln2_161).toNat, rfl, rfl, hW224, hF225, hP198, by omega, ((hF193.1 9 rfl).trans (e169)), ((hF193.1 10 rfl).trans (e167)), (e195), ((hF193.1 31 rfl).trans ((hF166.1 31 rfl).trans (fx_31))), ((hF193.1 19 rfl).trans (e170)), ((hF193.1 28 rfl).trans (e171)), rfl, (congrFun ((hF193.2 3 rfl).trans ((hF166.2 3 rfl).trans (hFx.2 3 rfl))) _), by omega, by omega, by omega, by omega, by omega, by omega, by omega, by omega, by omega, by first | exact Or.inl (⟨by omega, by omega⟩) | exact Or.inr ((⟨by omega, by omega, by omega, by omega, by omega, by omega⟩))⟩
                                  · have _q := h223
                                    exact absurd h223 (by omega)
                                · have _q : True := trivial
                                  exfalso
                                  omega
                            · have _q : True := trivial
                              exfalso
                              omega
                          · have _q := h210
                            exact absurd h210 (by omega)
                        · have _q : True := trivial
                          exfalso
                          omega
                      · have _q := h204
                        exact absurd h204 (by omega)
                  · have _q : True := trivial
                    have b226 : (0 : Int) ≤ A 3 (ln2_161).toNat ∧ A 3 (ln2_161).toNat ≤ 3000 := hW.2 3 _
                    have lt227 : ln2_161 < li → le1 < A 3 (ln2_161).toNat := fun hh => LT_nx (LT_ext (((hF166.1 3 rfl).trans (hFx.1 3 rfl))) (((hF166.2 3 rfl).trans (hFx.2 3 rfl))) (((hF166.2 4 rfl).trans (hFx.2 4 rfl))) i_LT) (show G157 3 = li from ((hF166.1 3 rfl).trans ((hFx.1 3 rfl).trans (e_li)))) (show A158 4 (ln1).toNat = le1 from (congrFun (hF166.2 4 rfl) _).trans (ex_le1)) (show A158 3 (ln2_161).toNat = A 3 (ln2_161).toNat from (congrFun ((hF166.2 3 rfl).trans (hFx.2 3 rfl)) _)) (show ln2_161 = ln1 + 1 by omega) (by omega) hh
                    refine jx_ld (pc' := 73) (l' := L156) (st' := [.int (i32 (dc))]) rfl (jl_iload gL156_4) ?_
                    refine jx_ld (pc' := 74) (l' := L156) (st' := [.ref 66, .int (i32 (dc))]) rfl (jl_aloadn gL156_0) ?_
                    refine jr_get (pc' := 77) (i := 19) (v := .int (i32 (sy2_162))) rfl rfl (by decide) (rFv_eq (by decide) (show G157 19 = sy2_162 from (e170))) rfl ?_
                    refine jx_add (pc' := 78) rfl rfl ?_
                    refine jx_ld (pc' := 80) (l' := L156) (st' := [.int (i32 (sy1)), .int (i32 ((dc + sy2_162)))]) rfl (jl_iload gL156_5) ?_
                    refine jx_sub (pc' := 81) rfl rfl ?_
                    refine jx_ld (pc' := 83) (l' := jSto1 L156 4 (.int (i32 (((dc + sy2_162) - sy1))))) (st' := []) rfl rfl ?_
                    obtain ⟨L228, eL228⟩ : ∃ q, q = jSto1 L156 4 (.int (i32 (((dc + sy2_162) - sy1)))) := ⟨_, rfl⟩
                    rw [← eL228]
                    have gL228_0 : jGet L228 0 = some (.ref 66) := eL228 ▸ jg_ne (by decide) gL156_0 rfl
                    have gL228_1 : jGet L228 1 = some (.int (i32 (lv))) := eL228 ▸ jg_ne (by decide) gL156_1 rfl
                    have gL228_2 : jGet L228 2 = some (.int (i32 (vi))) := eL228 ▸ jg_ne (by decide) gL156_2 rfl
                    have gL228_3 : jGet L228 3 = some (.int (i32 (sy))) := eL228 ▸ jg_ne (by decide) gL156_3 rfl
                    have gL228_5 : jGet L228 5 = some (.int (i32 (sy1))) := eL228 ▸ jg_ne (by decide) gL156_5 rfl
                    have gL228_4 : jGet L228 4 = some (.int (i32 (((dc + sy2_162) - sy1)))) := eL228 ▸ jg_eq
                    refine jx_ld (pc' := 84) (l' := L228) (st' := [.ref 66]) rfl (jl_aloadn gL228_0) ?_
                    refine jx_ld (pc' := 85) (l' := L228) (st' := [.int (i32 (lv)), .ref 66]) rfl (jl_iloadn gL228_1) ?_
                    have b229 : (-1 : Int) ≤ A 5 (ln2_161).toNat ∧ A 5 (ln2_161).toNat ≤ 15 := hW.2 5 _
                    refine jx_vr (pc' := 88) (as := [.int (i32 (lv))]) (st := []) rfl rfl rfl rfl ⟨rfl, rfl, Nat.le_of_ble_eq_true rfl⟩ rfl rfl (c_needLevel (dd := d) (hd := by omega) (hW := hW165) (lv := lv) (ln := ln2_161) (e_ln := show G157 9 = ln2_161 from (e169)) (li := li) (e_li := show G157 3 = li from ((hF166.1 3 rfl).trans ((hFx.1 3 rfl).trans (e_li)))) (fk := fk2_160) (e_fk := show G157 16 = fk2_160 from (e168)) (ll := A 5 (ln2_161).toNat) (e_ll := show A158 5 (ln2_161).toNat = A 5 (ln2_161).toNat from (congrFun ((hF166.2 5 rfl).trans (hFx.2 5 rfl)) _))  (h_lv := ⟨(Int.le_trans (by decide : (-2147483648 : Int) ≤ -2147483648) h_lv.1), (Int.le_trans h_lv.2 (by decide : (2147483647 : Int) ≤ 2147483647))⟩)  ) (fun o V' hq => ?_)
                    obtain ⟨G230, A231, r232, fk2_233, rfl, rfl, hW234, hF235, b236, e237, q238⟩ := hq
                    have hF239 := Fr_tr hF180 hF235 (Fr_sub (by decide)) (Fr_sub (by decide))
                    have hP240 := Pf_f hP181 hF235 (by decide)
                    have bfk2_233 : (0 : Int) ≤ fk2_233 ∧ fk2_233 ≤ 6 := e237 ▸ hW234.1 16
                    refine .inr ⟨_, rfl, ?_⟩
                    rcases q238 with ⟨rfl, a241, a242, a243, a244⟩ | ⟨rfl, a245⟩
                    · have _q : True := trivial
                      have b246 : (0 : Int) ≤ A 4 (ln2_161).toNat ∧ A 4 (ln2_161).toNat ≤ 3000 := hW.2 4 _
                      have lt247 : A 3 (ln2_161).toNat < A 4 (ln2_161).toNat := LT_at (LT_ext (((hF235.1 3 rfl).trans ((hF166.1 3 rfl).trans (hFx.1 3 rfl)))) (((hF235.2 3 rfl).trans ((hF166.2 3 rfl).trans (hFx.2 3 rfl)))) (((hF235.2 4 rfl).trans ((hF166.2 4 rfl).trans (hFx.2 4 rfl)))) i_LT) (show G230 3 = li from ((hF235.1 3 rfl).trans ((hF166.1 3 rfl).trans ((hFx.1 3 rfl).trans (e_li))))) (show A231 3 (ln2_161).toNat = A 3 (ln2_161).toNat from (congrFun ((hF235.2 3 rfl).trans ((hF166.2 3 rfl).trans (hFx.2 3 rfl))) _)) (show A231 4 (ln2_161).toNat = A 4 (ln2_161).toNat from (congrFun ((hF235.2 4 rfl).trans ((hF166.2 4 rfl).trans (hFx.2 4 rfl))) _)) (by omega) (by omega)
                      refine jx_if_eq (pc' := 91) (tg := 95) rfl rfl rfl (by decide) (by decide) (fun h248 => ?_) (fun h248 => ?_)
                      · have _q := h248
                        exact absurd h248 (by omega)
                      · have _q := h248
                        refine jx_ld (pc' := 92) (l' := L228) (st' := [.ref 66]) rfl (jl_aloadn gL228_0) ?_
                        refine jx_vr (pc' := 95) (as := []) (st := []) rfl rfl rfl rfl ⟨rfl, rfl, Nat.le_of_ble_eq_true rfl⟩ rfl rfl (c_openLine (dd := d) (hd := by omega) (hW := hW234)  (ln := ln2_161) (e_ln := show G230 9 = ln2_161 from ((hF235.1 9 rfl).trans (e169))) (le := A 4 (ln2_161).toNat) (e_le := show A231 4 (ln2_161).toNat = A 4 (ln2_161).toNat from (congrFun ((hF235.2 4 rfl).trans ((hF166.2 4 rfl).trans (hFx.2 4 rfl))) _)) (lf := A 3 (ln2_161).toNat) (e_lf := show A231 3 (ln2_161).toNat = A 3 (ln2_161).toNat from (congrFun ((hF235.2 3 rfl).trans ((hF166.2 3 rfl).trans (hFx.2 3 rfl))) _))    (p_0 := by omega)) (fun o V' hq => ?_)
                        obtain ⟨G249, A250, at2_251, tk2_252, op2_253, rfl, rfl, hW254, hF255, e256, e257, e258, p259, p260, p261, p262, -⟩ := hq
                        have hF264 := Fr_tr hF239 hF255 (Fr_sub (by decide)) (Fr_sub (by decide))
                        have hP265 := Pf_f hP240 hF255 (by decide)
                        have bat2_251 : (0 : Int) ≤ at2_251 ∧ at2_251 ≤ 3002 := e256 ▸ hW254.1 10
                        have ztk2_252 := tz_b tk2_252
                        have btk2_252 : (0 : Int) ≤ tk2_252 ∧ tk2_252 ≤ 5 := e257 ▸ hW254.1 11
                        have bop2_253 : (-2147483648 : Int) ≤ op2_253 ∧ op2_253 ≤ 2147483647 := e258 ▸ hW254.1 15
                        refine .inl ⟨rfl, ?_⟩
                        refine jx_go (tg := 27) rfl rfl ?_
                        have z266 := tz_f (tk2_252)
                        exact ih27 _ (by omega) L228 G249 A250 (((dc + sy2_162) - sy1)) (ln2_161) (at2_251) (tk2_252) (fk2_233) (op2_253) (sy2_162) (na2_163) (vi2_164) (A 4 (ln2_161).toNat) rfl gL228_0 gL228_1 gL228_2 gL228_3 gL228_4 hW254 hF264 hP265 (((hF255.1 9 rfl).trans ((hF235.1 9 rfl).trans (e169)))) ((e256)) ((e257)) (((hF255.1 16 rfl).trans (e237))) ((e258)) (((hF255.1 19 rfl).trans ((hF235.1 19 rfl).trans (e170)))) (((hF255.1 28 rfl).trans ((hF235.1 28 rfl).trans (e171)))) (((hF255.1 29 rfl).trans ((hF235.1 29 rfl).trans (e172)))) ((congrFun ((hF255.2 4 rfl).trans ((hF235.2 4 rfl).trans ((hF166.2 4 rfl).trans (hFx.2 4 rfl)))) _)) (((hF255.1 31 rfl).trans ((hF235.1 31 rfl).trans ((hF166.1 31 rfl).trans (fx_31))))) (by omega) (by omega) (by omega) (by omega) (by omega) (by omega) (by omega) (by omega) (by omega) (by omega) (by omega) (by omega) (by omega)
                    · have _q : True := trivial
                      refine jx_if_eq (pc' := 91) (tg := 95) rfl rfl rfl (by decide) (by decide) (fun h267 => ?_) (fun h267 => ?_)
                      · have _q := h267
                        refine jx_go (tg := 27) rfl rfl ?_
                        refine jx_ld (pc' := 28) (l' := L228) (st' := [.ref 66]) rfl (jl_aloadn gL228_0) ?_
                        refine jx_vr (pc' := 31) (as := []) (st := []) rfl rfl rfl rfl ⟨rfl, rfl, Nat.le_of_ble_eq_true rfl⟩ rfl rfl (c_bad (dd := d) (hd := by omega) (hW := hW234)  (fk := fk2_233) (e_fk := show G230 16 = fk2_233 from (e237))    ) (fun o V' hq => ?_)
                        obtain ⟨r268, rfl, rfl, b269, q270⟩ := hq
                        refine .inr ⟨_, rfl, ?_⟩
                        rcases q270 with ⟨rfl, a271⟩ | ⟨rfl, a272⟩
                        · have _q : True := trivial
                          refine jx_if_ne (pc' := 34) (tg := 98) rfl rfl rfl (by decide) (by decide) (fun h273 => ?_) (fun h273 => ?_)
                          · have _q := h273
                            refine jx_ld (pc' := 99) (l' := L228) (st' := [.ref 66]) rfl (jl_aloadn gL228_0) ?_
                            refine jx_vr (pc' := 102) (as := []) (st := []) rfl rfl rfl rfl ⟨rfl, rfl, Nat.le_of_ble_eq_true rfl⟩ rfl rfl (c_bad (dd := d) (hd := by omega) (hW := hW234)  (fk := fk2_233) (e_fk := show G230 16 = fk2_233 from (e237))    ) (fun o V' hq => ?_)
                            obtain ⟨r274, rfl, rfl, b275, q276⟩ := hq
                            refine .inr ⟨_, rfl, ?_⟩
                            rcases q276 with ⟨rfl, a277⟩ | ⟨rfl, a278⟩
                            · have _q : True := trivial
                              refine jx_if_eq (pc' := 105) (tg := 109) rfl rfl rfl (by decide) (by decide) (fun h279 => ?_) (fun h279 => ?_)
                              · have _q := h279
                                exact absurd h279 (by omega)
                              · have _q := h279
                                refine jx_ar (pc' := 106) (st' := [.int (i32 (0))]) rfl rfl rfl rfl ?_
                                refine jx_go (tg := 114) rfl rfl ?_
                                refine jx_ld (pc' := 116) (l' := jSto1 L228 5 (.int (i32 (0)))) (st' := []) rfl rfl ?_
                                obtain ⟨L280, eL280⟩ : ∃ q, q = jSto1 L228 5 (.int (i32 (0))) := ⟨_, rfl⟩
                                rw [← eL280]
                                have gL280_0 : jGet L280 0 = some (.ref 66) := eL280 ▸ jg_ne (by decide) gL228_0 rfl
                                have gL280_1 : jGet L280 1 = some (.int (i32 (lv))) := eL280 ▸ jg_ne (by decide) gL228_1 rfl
                                have gL280_2 : jGet L280 2 = some (.int (i32 (vi))) := eL280 ▸ jg_ne (by decide) gL228_2 rfl
                                have gL280_3 : jGet L280 3 = some (.int (i32 (sy))) := eL280 ▸ jg_ne (by decide) gL228_3 rfl
                                have gL280_4 : jGet L280 4 = some (.int (i32 (((dc + sy2_162) - sy1)))) := eL280 ▸ jg_ne (by decide) gL228_4 rfl
                                have gL280_5 : jGet L280 5 = some (.int (i32 (0))) := eL280 ▸ jg_eq
                                refine jx_ld (pc' := 117) (l' := L280) (st' := [.ref 66]) rfl (jl_aloadn gL280_0) ?_
                                refine jx_vr (pc' := 120) (as := []) (st := []) rfl rfl rfl rfl ⟨rfl, rfl, Nat.le_of_ble_eq_true rfl⟩ rfl rfl (c_bad (dd := d) (hd := by omega) (hW := hW234)  (fk := fk2_233) (e_fk := show G230 16 = fk2_233 from (e237))    ) (fun o V' hq => ?_)
                                obtain ⟨r281, rfl, rfl, b282, q283⟩ := hq
                                refine .inr ⟨_, rfl, ?_⟩
                                rcases q283 with ⟨rfl, a284⟩ | ⟨rfl, a285⟩
                                · have _q : True := trivial
                                  refine jx_if_ne (pc' := 123) (tg := 140) rfl rfl rfl (by decide) (by decide) (fun h286 => ?_) (fun h286 => ?_)
                                  · have _q := h286
                                    refine jx_ld (pc' := 141) (l' := L280) (st' := [.ref 66]) rfl (jl_aloadn gL280_0) ?_
                                    refine jx_ld (pc' := 142) (l' := L280) (st' := [.int (i32 (vi)), .ref 66]) rfl (jl_iloadn gL280_2) ?_
                                    refine jr_put (pc' := 145) (i := 29) (z := vi) rfl rfl (by decide) rfl rfl rfl rfl rfl rfl ?_
                                    have hW287 : Wk (uG G230 29 (vi)) A231 := Wk_g hW234 (show (0 : Int) ≤ vi by omega) (show vi ≤ (202 : Int) by omega)
                                    have hF288 := Fr_g (z := vi) (i := 29) hF239 (by decide)
                                    refine jx_ld (pc' := 147) (l' := L280) (st' := [.int (i32 (0))]) rfl (jl_iload gL280_5) ?_
                                    refine jx_rt (v := some (.int (i32 (0)))) rfl rfl rfl rfl rfl rfl ?_
                                    exact ⟨_, _, _, ln2_161, at2_159, fk2_233, nd, sy2_162, na2_163, vi, A 3 (ln2_161).toNat, rfl, rfl, hW287, hF288, hP240, by omega, ((hF235.1 9 rfl).trans (e169)), ((hF235.1 10 rfl).trans (e167)), (e237), ((hF235.1 31 rfl).trans ((hF166.1 31 rfl).trans (fx_31))), ((hF235.1 19 rfl).trans (e170)), ((hF235.1 28 rfl).trans (e171)), rfl, (congrFun ((hF235.2 3 rfl).trans ((hF166.2 3 rfl).trans (hFx.2 3 rfl))) _), by omega, by omega, by omega, by omega, by omega, by omega, by omega, by omega, by omega, by first | exact Or.inl (⟨by omega, by omega⟩) | exact Or.inr ((⟨by omega, by omega, by omega, by omega, by omega, by omega⟩))⟩
                                  · have _q := h286
                                    exact absurd h286 (by omega)
                                · have _q : True := trivial
                                  exfalso
                                  omega
                            · have _q : True := trivial
                              exfalso
                              omega
                          · have _q := h273
                            exact absurd h273 (by omega)
                        · have _q : True := trivial
                          exfalso
                          omega
                      · have _q := h267
                        exact absurd h267 (by omega)
                · have _q := h155
                  exact absurd h155 (by omega)
              · have _q : True := trivial
                refine jx_if_ne (pc' := 52) (tg := 61) rfl rfl rfl (by decide) (by decide) (fun h289 => ?_) (fun h289 => ?_)
                · have _q := h289
                  exact absurd h289 (by omega)
                · have _q := h289
                  refine jx_ld (pc' := 53) (l' := L) (st' := [.ref 66]) rfl (jl_aloadn gL_0) ?_
                  refine jx_ar (pc' := 55) (st' := [.int (i32 (91)), .ref 66]) rfl rfl rfl rfl ?_
                  refine jx_vr (pc' := 58) (as := [.int (i32 (91))]) (st := []) rfl rfl rfl rfl ⟨rfl, rfl, Nat.le_of_ble_eq_true rfl⟩ rfl rfl (c_is (dd := d) (hd := by omega) (hW := hWx) (k := 91) (tk := tk1) (e_tk := show Gx 11 = tk1 from (ex_tk1)) (tn := Gx 13) (e_tn := show Gx 13 = Gx 13 from rfl)  (h_k := ⟨(by decide), (by decide)⟩)  ) (fun o V' hq => ?_)
                  obtain ⟨r290, rfl, rfl, b291, q292⟩ := hq
                  refine .inr ⟨_, rfl, ?_⟩
                  rcases q292 with ⟨rfl, a293, a294, a295⟩ | rfl
                  · have _q : True := trivial
                    refine jx_if_eq (pc' := 61) (tg := 98) rfl rfl rfl (by decide) (by decide) (fun h296 => ?_) (fun h296 => ?_)
                    · have _q := h296
                      exact absurd h296 (by omega)
                    · have _q := h296
                      refine jx_ld (pc' := 62) (l' := L) (st' := [.ref 66]) rfl (jl_aloadn gL_0) ?_
                      refine jr_get (pc' := 65) (i := 19) (v := .int (i32 (sy1))) rfl rfl (by decide) (rFv_eq (by decide) (show Gx 19 = sy1 from (ex_sy1))) rfl ?_
                      refine jx_ld (pc' := 67) (l' := jSto1 L 5 (.int (i32 (sy1)))) (st' := []) rfl rfl ?_
                      obtain ⟨L297, eL297⟩ : ∃ q, q = jSto1 L 5 (.int (i32 (sy1))) := ⟨_, rfl⟩
                      rw [← eL297]
                      have gL297_0 : jGet L297 0 = some (.ref 66) := eL297 ▸ jg_ne (by decide) gL_0 rfl
                      have gL297_1 : jGet L297 1 = some (.int (i32 (lv))) := eL297 ▸ jg_ne (by decide) gL_1 rfl
                      have gL297_2 : jGet L297 2 = some (.int (i32 (vi))) := eL297 ▸ jg_ne (by decide) gL_2 rfl
                      have gL297_3 : jGet L297 3 = some (.int (i32 (sy))) := eL297 ▸ jg_ne (by decide) gL_3 rfl
                      have gL297_4 : jGet L297 4 = some (.int (i32 (dc))) := eL297 ▸ jg_ne (by decide) gL_4 rfl
                      have gL297_5 : jGet L297 5 = some (.int (i32 (sy1))) := eL297 ▸ jg_eq
                      refine jx_ld (pc' := 68) (l' := L297) (st' := [.ref 66]) rfl (jl_aloadn gL297_0) ?_
                      refine jx_vr (pc' := 71) (as := []) (st := []) rfl rfl rfl rfl ⟨rfl, rfl, Nat.le_of_ble_eq_true rfl⟩ rfl rfl (c_readDeclaration (dd := d) (hd := by omega) (hW := hWx)  (ln := ln1) (e_ln := show Gx 9 = ln1 from (ex_ln1)) (le := le1) (e_le := show Ax 4 (ln1).toNat = le1 from (ex_le1)) (at0 := at1) (e_at0 := show Gx 10 = at1 from (ex_at1)) (fk := fk1) (e_fk := show Gx 16 = fk1 from (ex_fk1)) (tk0 := tk1) (e_tk0 := show Gx 11 = tk1 from (ex_tk1)) (li := li) (e_li := show Gx 3 = li from ((hFx.1 3 rfl).trans (e_li))) (sy := sy1) (e_sy := show Gx 19 = sy1 from (ex_sy1)) (na := na1) (e_na := show Gx 28 = na1 from (ex_na1)) (vi := vi1) (e_vi := show Gx 29 = vi1 from (ex_vi1))    (p_0 := by omega) (p_1 := by omega) (p_2 := by omega) (p_3 := by omega) (p_4 := by omega)) (fun o V' hq => ?_)
                      obtain ⟨G298, A299, at2_300, fk2_301, ln2_302, sy2_303, na2_304, vi2_305, rfl, rfl, hW306, hF307, e308, e309, e310, e311, e312, e313, p314, p315, p316, p317, p318, p319, q320⟩ := hq
                      have hF321 := Fr_tr hFx hF307 (Fr_sub (by decide)) (Fr_sub (by decide))
                      have hP322 := Pf_f hPx hF307 (by decide)
                      have bat2_300 : (0 : Int) ≤ at2_300 ∧ at2_300 ≤ 3002 := e308 ▸ hW306.1 10
                      have bfk2_301 : (0 : Int) ≤ fk2_301 ∧ fk2_301 ≤ 6 := e309 ▸ hW306.1 16
                      have bln2_302 : (0 : Int) ≤ ln2_302 ∧ ln2_302 ≤ 3000 := e310 ▸ hW306.1 9
                      have bsy2_303 : (0 : Int) ≤ sy2_303 ∧ sy2_303 ≤ 202 := e311 ▸ hW306.1 19
                      have bna2_304 : (0 : Int) ≤ na2_304 ∧ na2_304 ≤ 200 := e312 ▸ hW306.1 28
                      have bvi2_305 : (0 : Int) ≤ vi2_305 ∧ vi2_305 ≤ 202 := e313 ▸ hW306.1 29
                      refine .inl ⟨rfl, ?_⟩
                      rcases q320 with ⟨a323, a324⟩ | ⟨a325, a326⟩
                      · have _q : True := trivial
                        refine jx_ld (pc' := 73) (l' := L297) (st' := [.int (i32 (dc))]) rfl (jl_iload gL297_4) ?_
                        refine jx_ld (pc' := 74) (l' := L297) (st' := [.ref 66, .int (i32 (dc))]) rfl (jl_aloadn gL297_0) ?_
                        refine jr_get (pc' := 77) (i := 19) (v := .int (i32 (sy2_303))) rfl rfl (by decide) (rFv_eq (by decide) (show G298 19 = sy2_303 from (e311))) rfl ?_
                        refine jx_add (pc' := 78) rfl rfl ?_
                        refine jx_ld (pc' := 80) (l' := L297) (st' := [.int (i32 (sy1)), .int (i32 ((dc + sy2_303)))]) rfl (jl_iload gL297_5) ?_
                        refine jx_sub (pc' := 81) rfl rfl ?_
                        refine jx_ld (pc' := 83) (l' := jSto1 L297 4 (.int (i32 (((dc + sy2_303) - sy1))))) (st' := []) rfl rfl ?_
                        obtain ⟨L327, eL327⟩ : ∃ q, q = jSto1 L297 4 (.int (i32 (((dc + sy2_303) - sy1)))) := ⟨_, rfl⟩
                        rw [← eL327]
                        have gL327_0 : jGet L327 0 = some (.ref 66) := eL327 ▸ jg_ne (by decide) gL297_0 rfl
                        have gL327_1 : jGet L327 1 = some (.int (i32 (lv))) := eL327 ▸ jg_ne (by decide) gL297_1 rfl
                        have gL327_2 : jGet L327 2 = some (.int (i32 (vi))) := eL327 ▸ jg_ne (by decide) gL297_2 rfl
                        have gL327_3 : jGet L327 3 = some (.int (i32 (sy))) := eL327 ▸ jg_ne (by decide) gL297_3 rfl
                        have gL327_5 : jGet L327 5 = some (.int (i32 (sy1))) := eL327 ▸ jg_ne (by decide) gL297_5 rfl
                        have gL327_4 : jGet L327 4 = some (.int (i32 (((dc + sy2_303) - sy1)))) := eL327 ▸ jg_eq
                        refine jx_ld (pc' := 84) (l' := L327) (st' := [.ref 66]) rfl (jl_aloadn gL327_0) ?_
                        refine jx_ld (pc' := 85) (l' := L327) (st' := [.int (i32 (lv)), .ref 66]) rfl (jl_iloadn gL327_1) ?_
                        have b328 : (-1 : Int) ≤ A 5 (ln2_302).toNat ∧ A 5 (ln2_302).toNat ≤ 15 := hW.2 5 _
                        refine jx_vr (pc' := 88) (as := [.int (i32 (lv))]) (st := []) rfl rfl rfl rfl ⟨rfl, rfl, Nat.le_of_ble_eq_true rfl⟩ rfl rfl (c_needLevel (dd := d) (hd := by omega) (hW := hW306) (lv := lv) (ln := ln2_302) (e_ln := show G298 9 = ln2_302 from (e310)) (li := li) (e_li := show G298 3 = li from ((hF307.1 3 rfl).trans ((hFx.1 3 rfl).trans (e_li)))) (fk := fk2_301) (e_fk := show G298 16 = fk2_301 from (e309)) (ll := A 5 (ln2_302).toNat) (e_ll := show A299 5 (ln2_302).toNat = A 5 (ln2_302).toNat from (congrFun ((hF307.2 5 rfl).trans (hFx.2 5 rfl)) _))  (h_lv := ⟨(Int.le_trans (by decide : (-2147483648 : Int) ≤ -2147483648) h_lv.1), (Int.le_trans h_lv.2 (by decide : (2147483647 : Int) ≤ 2147483647))⟩)  ) (fun o V' hq => ?_)
                        obtain ⟨G329, A330, r331, fk2_332, rfl, rfl, hW333, hF334, b335, e336, q337⟩ := hq
                        have hF338 := Fr_tr hF321 hF334 (Fr_sub (by decide)) (Fr_sub (by decide))
                        have hP339 := Pf_f hP322 hF334 (by decide)
                        have bfk2_332 : (0 : Int) ≤ fk2_332 ∧ fk2_332 ≤ 6 := e336 ▸ hW333.1 16
                        refine .inr ⟨_, rfl, ?_⟩
                        rcases q337 with ⟨rfl, a340, a341, a342, a343⟩ | ⟨rfl, a344⟩
                        · have _q : True := trivial
                          exfalso
                          omega
                        · have _q : True := trivial
                          refine jx_if_eq (pc' := 91) (tg := 95) rfl rfl rfl (by decide) (by decide) (fun h345 => ?_) (fun h345 => ?_)
                          · have _q := h345
                            refine jx_go (tg := 27) rfl rfl ?_
                            refine jx_ld (pc' := 28) (l' := L327) (st' := [.ref 66]) rfl (jl_aloadn gL327_0) ?_
                            refine jx_vr (pc' := 31) (as := []) (st := []) rfl rfl rfl rfl ⟨rfl, rfl, Nat.le_of_ble_eq_true rfl⟩ rfl rfl (c_bad (dd := d) (hd := by omega) (hW := hW333)  (fk := fk2_332) (e_fk := show G329 16 = fk2_332 from (e336))    ) (fun o V' hq => ?_)
                            obtain ⟨r346, rfl, rfl, b347, q348⟩ := hq
                            refine .inr ⟨_, rfl, ?_⟩
                            rcases q348 with ⟨rfl, a349⟩ | ⟨rfl, a350⟩
                            · have _q : True := trivial
                              refine jx_if_ne (pc' := 34) (tg := 98) rfl rfl rfl (by decide) (by decide) (fun h351 => ?_) (fun h351 => ?_)
                              · have _q := h351
                                refine jx_ld (pc' := 99) (l' := L327) (st' := [.ref 66]) rfl (jl_aloadn gL327_0) ?_
                                refine jx_vr (pc' := 102) (as := []) (st := []) rfl rfl rfl rfl ⟨rfl, rfl, Nat.le_of_ble_eq_true rfl⟩ rfl rfl (c_bad (dd := d) (hd := by omega) (hW := hW333)  (fk := fk2_332) (e_fk := show G329 16 = fk2_332 from (e336))    ) (fun o V' hq => ?_)
                                obtain ⟨r352, rfl, rfl, b353, q354⟩ := hq
                                refine .inr ⟨_, rfl, ?_⟩
                                rcases q354 with ⟨rfl, a355⟩ | ⟨rfl, a356⟩
                                · have _q : True := trivial
                                  refine jx_if_eq (pc' := 105) (tg := 109) rfl rfl rfl (by decide) (by decide) (fun h357 => ?_) (fun h357 => ?_)
                                  · have _q := h357
                                    exact absurd h357 (by omega)
                                  · have _q := h357
                                    refine jx_ar (pc' := 106) (st' := [.int (i32 (0))]) rfl rfl rfl rfl ?_
                                    refine jx_go (tg := 114) rfl rfl ?_
                                    refine jx_ld (pc' := 116) (l' := jSto1 L327 5 (.int (i32 (0)))) (st' := []) rfl rfl ?_
                                    obtain ⟨L358, eL358⟩ : ∃ q, q = jSto1 L327 5 (.int (i32 (0))) := ⟨_, rfl⟩
                                    rw [← eL358]
                                    have gL358_0 : jGet L358 0 = some (.ref 66) := eL358 ▸ jg_ne (by decide) gL327_0 rfl
                                    have gL358_1 : jGet L358 1 = some (.int (i32 (lv))) := eL358 ▸ jg_ne (by decide) gL327_1 rfl
                                    have gL358_2 : jGet L358 2 = some (.int (i32 (vi))) := eL358 ▸ jg_ne (by decide) gL327_2 rfl
                                    have gL358_3 : jGet L358 3 = some (.int (i32 (sy))) := eL358 ▸ jg_ne (by decide) gL327_3 rfl
                                    have gL358_4 : jGet L358 4 = some (.int (i32 (((dc + sy2_303) - sy1)))) := eL358 ▸ jg_ne (by decide) gL327_4 rfl
                                    have gL358_5 : jGet L358 5 = some (.int (i32 (0))) := eL358 ▸ jg_eq
                                    refine jx_ld (pc' := 117) (l' := L358) (st' := [.ref 66]) rfl (jl_aloadn gL358_0) ?_
                                    refine jx_vr (pc' := 120) (as := []) (st := []) rfl rfl rfl rfl ⟨rfl, rfl, Nat.le_of_ble_eq_true rfl⟩ rfl rfl (c_bad (dd := d) (hd := by omega) (hW := hW333)  (fk := fk2_332) (e_fk := show G329 16 = fk2_332 from (e336))    ) (fun o V' hq => ?_)
                                    obtain ⟨r359, rfl, rfl, b360, q361⟩ := hq
                                    refine .inr ⟨_, rfl, ?_⟩
                                    rcases q361 with ⟨rfl, a362⟩ | ⟨rfl, a363⟩
                                    · have _q : True := trivial
                                      refine jx_if_ne (pc' := 123) (tg := 140) rfl rfl rfl (by decide) (by decide) (fun h364 => ?_) (fun h364 => ?_)
                                      · have _q := h364
                                        refine jx_ld (pc' := 141) (l' := L358) (st' := [.ref 66]) rfl (jl_aloadn gL358_0) ?_
                                        refine jx_ld (pc' := 142) (l' := L358) (st' := [.int (i32 (vi)), .ref 66]) rfl (jl_iloadn gL358_2) ?_
                                        refine jr_put (pc' := 145) (i := 29) (z := vi) rfl rfl (by decide) rfl rfl rfl rfl rfl rfl ?_
                                        have hW365 : Wk (uG G329 29 (vi)) A330 := Wk_g hW333 (show (0 : Int) ≤ vi by omega) (show vi ≤ (202 : Int) by omega)
                                        have hF366 := Fr_g (z := vi) (i := 29) hF338 (by decide)
                                        refine jx_ld (pc' := 147) (l' := L358) (st' := [.int (i32 (0))]) rfl (jl_iload gL358_5) ?_
                                        refine jx_rt (v := some (.int (i32 (0)))) rfl rfl rfl rfl rfl rfl ?_
                                        exact ⟨_, _, _, ln2_302, at2_300, fk2_332, nd, sy2_303, na2_304, vi, A 3 (ln2_302).toNat, rfl, rfl, hW365, hF366, hP339, by omega, ((hF334.1 9 rfl).trans (e310)), ((hF334.1 10 rfl).trans (e308)), (e336), ((hF334.1 31 rfl).trans ((hF307.1 31 rfl).trans (fx_31))), ((hF334.1 19 rfl).trans (e311)), ((hF334.1 28 rfl).trans (e312)), rfl, (congrFun ((hF334.2 3 rfl).trans ((hF307.2 3 rfl).trans (hFx.2 3 rfl))) _), by omega, by omega, by omega, by omega, by omega, by omega, by omega, by omega, by omega, by first | exact Or.inl (⟨by omega, by omega⟩) | exact Or.inr ((⟨by omega, by omega, by omega, by omega, by omega, by omega⟩))⟩
                                      · have _q := h364
                                        exact absurd h364 (by omega)
                                    · have _q : True := trivial
                                      exfalso
                                      omega
                                · have _q : True := trivial
                                  exfalso
                                  omega
                              · have _q := h351
                                exact absurd h351 (by omega)
                            · have _q : True := trivial
                              exfalso
                              omega
                          · have _q := h345
                            exact absurd h345 (by omega)
                      · have _q : True := trivial
                        have b367 : (0 : Int) ≤ A 3 (ln2_302).toNat ∧ A 3 (ln2_302).toNat ≤ 3000 := hW.2 3 _
                        have lt368 : ln2_302 < li → le1 < A 3 (ln2_302).toNat := fun hh => LT_nx (LT_ext (((hF307.1 3 rfl).trans (hFx.1 3 rfl))) (((hF307.2 3 rfl).trans (hFx.2 3 rfl))) (((hF307.2 4 rfl).trans (hFx.2 4 rfl))) i_LT) (show G298 3 = li from ((hF307.1 3 rfl).trans ((hFx.1 3 rfl).trans (e_li)))) (show A299 4 (ln1).toNat = le1 from (congrFun (hF307.2 4 rfl) _).trans (ex_le1)) (show A299 3 (ln2_302).toNat = A 3 (ln2_302).toNat from (congrFun ((hF307.2 3 rfl).trans (hFx.2 3 rfl)) _)) (show ln2_302 = ln1 + 1 by omega) (by omega) hh
                        refine jx_ld (pc' := 73) (l' := L297) (st' := [.int (i32 (dc))]) rfl (jl_iload gL297_4) ?_
                        refine jx_ld (pc' := 74) (l' := L297) (st' := [.ref 66, .int (i32 (dc))]) rfl (jl_aloadn gL297_0) ?_
                        refine jr_get (pc' := 77) (i := 19) (v := .int (i32 (sy2_303))) rfl rfl (by decide) (rFv_eq (by decide) (show G298 19 = sy2_303 from (e311))) rfl ?_
                        refine jx_add (pc' := 78) rfl rfl ?_
                        refine jx_ld (pc' := 80) (l' := L297) (st' := [.int (i32 (sy1)), .int (i32 ((dc + sy2_303)))]) rfl (jl_iload gL297_5) ?_
                        refine jx_sub (pc' := 81) rfl rfl ?_
                        refine jx_ld (pc' := 83) (l' := jSto1 L297 4 (.int (i32 (((dc + sy2_303) - sy1))))) (st' := []) rfl rfl ?_
                        obtain ⟨L369, eL369⟩ : ∃ q, q = jSto1 L297 4 (.int (i32 (((dc + sy2_303) - sy1)))) := ⟨_, rfl⟩
                        rw [← eL369]
                        have gL369_0 : jGet L369 0 = some (.ref 66) := eL369 ▸ jg_ne (by decide) gL297_0 rfl
                        have gL369_1 : jGet L369 1 = some (.int (i32 (lv))) := eL369 ▸ jg_ne (by decide) gL297_1 rfl
                        have gL369_2 : jGet L369 2 = some (.int (i32 (vi))) := eL369 ▸ jg_ne (by decide) gL297_2 rfl
                        have gL369_3 : jGet L369 3 = some (.int (i32 (sy))) := eL369 ▸ jg_ne (by decide) gL297_3 rfl
                        have gL369_5 : jGet L369 5 = some (.int (i32 (sy1))) := eL369 ▸ jg_ne (by decide) gL297_5 rfl
                        have gL369_4 : jGet L369 4 = some (.int (i32 (((dc + sy2_303) - sy1)))) := eL369 ▸ jg_eq
                        refine jx_ld (pc' := 84) (l' := L369) (st' := [.ref 66]) rfl (jl_aloadn gL369_0) ?_
                        refine jx_ld (pc' := 85) (l' := L369) (st' := [.int (i32 (lv)), .ref 66]) rfl (jl_iloadn gL369_1) ?_
                        have b370 : (-1 : Int) ≤ A 5 (ln2_302).toNat ∧ A 5 (ln2_302).toNat ≤ 15 := hW.2 5 _
                        refine jx_vr (pc' := 88) (as := [.int (i32 (lv))]) (st := []) rfl rfl rfl rfl ⟨rfl, rfl, Nat.le_of_ble_eq_true rfl⟩ rfl rfl (c_needLevel (dd := d) (hd := by omega) (hW := hW306) (lv := lv) (ln := ln2_302) (e_ln := show G298 9 = ln2_302 from (e310)) (li := li) (e_li := show G298 3 = li from ((hF307.1 3 rfl).trans ((hFx.1 3 rfl).trans (e_li)))) (fk := fk2_301) (e_fk := show G298 16 = fk2_301 from (e309)) (ll := A 5 (ln2_302).toNat) (e_ll := show A299 5 (ln2_302).toNat = A 5 (ln2_302).toNat from (congrFun ((hF307.2 5 rfl).trans (hFx.2 5 rfl)) _))  (h_lv := ⟨(Int.le_trans (by decide : (-2147483648 : Int) ≤ -2147483648) h_lv.1), (Int.le_trans h_lv.2 (by decide : (2147483647 : Int) ≤ 2147483647))⟩)  ) (fun o V' hq => ?_)
                        obtain ⟨G371, A372, r373, fk2_374, rfl, rfl, hW375, hF376, b377, e378, q379⟩ := hq
                        have hF380 := Fr_tr hF321 hF376 (Fr_sub (by decide)) (Fr_sub (by decide))
                        have hP381 := Pf_f hP322 hF376 (by decide)
                        have bfk2_374 : (0 : Int) ≤ fk2_374 ∧ fk2_374 ≤ 6 := e378 ▸ hW375.1 16
                        refine .inr ⟨_, rfl, ?_⟩
                        rcases q379 with ⟨rfl, a382, a383, a384, a385⟩ | ⟨rfl, a386⟩
                        · have _q : True := trivial
                          have b387 : (0 : Int) ≤ A 4 (ln2_302).toNat ∧ A 4 (ln2_302).toNat ≤ 3000 := hW.2 4 _
                          have lt388 : A 3 (ln2_302).toNat < A 4 (ln2_302).toNat := LT_at (LT_ext (((hF376.1 3 rfl).trans ((hF307.1 3 rfl).trans (hFx.1 3 rfl)))) (((hF376.2 3 rfl).trans ((hF307.2 3 rfl).trans (hFx.2 3 rfl)))) (((hF376.2 4 rfl).trans ((hF307.2 4 rfl).trans (hFx.2 4 rfl)))) i_LT) (show G371 3 = li from ((hF376.1 3 rfl).trans ((hF307.1 3 rfl).trans ((hFx.1 3 rfl).trans (e_li))))) (show A372 3 (ln2_302).toNat = A 3 (ln2_302).toNat from (congrFun ((hF376.2 3 rfl).trans ((hF307.2 3 rfl).trans (hFx.2 3 rfl))) _)) (show A372 4 (ln2_302).toNat = A 4 (ln2_302).toNat from (congrFun ((hF376.2 4 rfl).trans ((hF307.2 4 rfl).trans (hFx.2 4 rfl))) _)) (by omega) (by omega)
                          refine jx_if_eq (pc' := 91) (tg := 95) rfl rfl rfl (by decide) (by decide) (fun h389 => ?_) (fun h389 => ?_)
                          · have _q := h389
                            exact absurd h389 (by omega)
                          · have _q := h389
                            refine jx_ld (pc' := 92) (l' := L369) (st' := [.ref 66]) rfl (jl_aloadn gL369_0) ?_
                            refine jx_vr (pc' := 95) (as := []) (st := []) rfl rfl rfl rfl ⟨rfl, rfl, Nat.le_of_ble_eq_true rfl⟩ rfl rfl (c_openLine (dd := d) (hd := by omega) (hW := hW375)  (ln := ln2_302) (e_ln := show G371 9 = ln2_302 from ((hF376.1 9 rfl).trans (e310))) (le := A 4 (ln2_302).toNat) (e_le := show A372 4 (ln2_302).toNat = A 4 (ln2_302).toNat from (congrFun ((hF376.2 4 rfl).trans ((hF307.2 4 rfl).trans (hFx.2 4 rfl))) _)) (lf := A 3 (ln2_302).toNat) (e_lf := show A372 3 (ln2_302).toNat = A 3 (ln2_302).toNat from (congrFun ((hF376.2 3 rfl).trans ((hF307.2 3 rfl).trans (hFx.2 3 rfl))) _))    (p_0 := by omega)) (fun o V' hq => ?_)
                            obtain ⟨G390, A391, at2_392, tk2_393, op2_394, rfl, rfl, hW395, hF396, e397, e398, e399, p400, p401, p402, p403, -⟩ := hq
                            have hF405 := Fr_tr hF380 hF396 (Fr_sub (by decide)) (Fr_sub (by decide))
                            have hP406 := Pf_f hP381 hF396 (by decide)
                            have bat2_392 : (0 : Int) ≤ at2_392 ∧ at2_392 ≤ 3002 := e397 ▸ hW395.1 10
                            have ztk2_393 := tz_b tk2_393
                            have btk2_393 : (0 : Int) ≤ tk2_393 ∧ tk2_393 ≤ 5 := e398 ▸ hW395.1 11
                            have bop2_394 : (-2147483648 : Int) ≤ op2_394 ∧ op2_394 ≤ 2147483647 := e399 ▸ hW395.1 15
                            refine .inl ⟨rfl, ?_⟩
                            refine jx_go (tg := 27) rfl rfl ?_
                            have z407 := tz_f (tk2_393)
                            exact ih27 _ (by omega) L369 G390 A391 (((dc + sy2_303) - sy1)) (ln2_302) (at2_392) (tk2_393) (fk2_374) (op2_394) (sy2_303) (na2_304) (vi2_305) (A 4 (ln2_302).toNat) rfl gL369_0 gL369_1 gL369_2 gL369_3 gL369_4 hW395 hF405 hP406 (((hF396.1 9 rfl).trans ((hF376.1 9 rfl).trans (e310)))) ((e397)) ((e398)) (((hF396.1 16 rfl).trans (e378))) ((e399)) (((hF396.1 19 rfl).trans ((hF376.1 19 rfl).trans (e311)))) (((hF396.1 28 rfl).trans ((hF376.1 28 rfl).trans (e312)))) (((hF396.1 29 rfl).trans ((hF376.1 29 rfl).trans (e313)))) ((congrFun ((hF396.2 4 rfl).trans ((hF376.2 4 rfl).trans ((hF307.2 4 rfl).trans (hFx.2 4 rfl)))) _)) (((hF396.1 31 rfl).trans ((hF376.1 31 rfl).trans ((hF307.1 31 rfl).trans (fx_31))))) (by omega) (by omega) (by omega) (by omega) (by omega) (by omega) (by omega) (by omega) (by omega) (by omega) (by omega) (by omega) (by omega)
                        · have _q : True := trivial
                          refine jx_if_eq (pc' := 91) (tg := 95) rfl rfl rfl (by decide) (by decide) (fun h408 => ?_) (fun h408 => ?_)
                          · have _q := h408
                            refine jx_go (tg := 27) rfl rfl ?_
                            refine jx_ld (pc' := 28) (l' := L369) (st' := [.ref 66]) rfl (jl_aloadn gL369_0) ?_
                            refine jx_vr (pc' := 31) (as := []) (st := []) rfl rfl rfl rfl ⟨rfl, rfl, Nat.le_of_ble_eq_true rfl⟩ rfl rfl (c_bad (dd := d) (hd := by omega) (hW := hW375)  (fk := fk2_374) (e_fk := show G371 16 = fk2_374 from (e378))    ) (fun o V' hq => ?_)
                            obtain ⟨r409, rfl, rfl, b410, q411⟩ := hq
                            refine .inr ⟨_, rfl, ?_⟩
                            rcases q411 with ⟨rfl, a412⟩ | ⟨rfl, a413⟩
                            · have _q : True := trivial
                              refine jx_if_ne (pc' := 34) (tg := 98) rfl rfl rfl (by decide) (by decide) (fun h414 => ?_) (fun h414 => ?_)
                              · have _q := h414
                                refine jx_ld (pc' := 99) (l' := L369) (st' := [.ref 66]) rfl (jl_aloadn gL369_0) ?_
                                refine jx_vr (pc' := 102) (as := []) (st := []) rfl rfl rfl rfl ⟨rfl, rfl, Nat.le_of_ble_eq_true rfl⟩ rfl rfl (c_bad (dd := d) (hd := by omega) (hW := hW375)  (fk := fk2_374) (e_fk := show G371 16 = fk2_374 from (e378))    ) (fun o V' hq => ?_)
                                obtain ⟨r415, rfl, rfl, b416, q417⟩ := hq
                                refine .inr ⟨_, rfl, ?_⟩
                                rcases q417 with ⟨rfl, a418⟩ | ⟨rfl, a419⟩
                                · have _q : True := trivial
                                  refine jx_if_eq (pc' := 105) (tg := 109) rfl rfl rfl (by decide) (by decide) (fun h420 => ?_) (fun h420 => ?_)
                                  · have _q := h420
                                    exact absurd h420 (by omega)
                                  · have _q := h420
                                    refine jx_ar (pc' := 106) (st' := [.int (i32 (0))]) rfl rfl rfl rfl ?_
                                    refine jx_go (tg := 114) rfl rfl ?_
                                    refine jx_ld (pc' := 116) (l' := jSto1 L369 5 (.int (i32 (0)))) (st' := []) rfl rfl ?_
                                    obtain ⟨L421, eL421⟩ : ∃ q, q = jSto1 L369 5 (.int (i32 (0))) := ⟨_, rfl⟩
                                    rw [← eL421]
                                    have gL421_0 : jGet L421 0 = some (.ref 66) := eL421 ▸ jg_ne (by decide) gL369_0 rfl
                                    have gL421_1 : jGet L421 1 = some (.int (i32 (lv))) := eL421 ▸ jg_ne (by decide) gL369_1 rfl
                                    have gL421_2 : jGet L421 2 = some (.int (i32 (vi))) := eL421 ▸ jg_ne (by decide) gL369_2 rfl
                                    have gL421_3 : jGet L421 3 = some (.int (i32 (sy))) := eL421 ▸ jg_ne (by decide) gL369_3 rfl
                                    have gL421_4 : jGet L421 4 = some (.int (i32 (((dc + sy2_303) - sy1)))) := eL421 ▸ jg_ne (by decide) gL369_4 rfl
                                    have gL421_5 : jGet L421 5 = some (.int (i32 (0))) := eL421 ▸ jg_eq
                                    refine jx_ld (pc' := 117) (l' := L421) (st' := [.ref 66]) rfl (jl_aloadn gL421_0) ?_
                                    refine jx_vr (pc' := 120) (as := []) (st := []) rfl rfl rfl rfl ⟨rfl, rfl, Nat.le_of_ble_eq_true rfl⟩ rfl rfl (c_bad (dd := d) (hd := by omega) (hW := hW375)  (fk := fk2_374) (e_fk := show G371 16 = fk2_374 from (e378))    ) (fun o V' hq => ?_)
                                    obtain ⟨r422, rfl, rfl, b423, q424⟩ := hq
                                    refine .inr ⟨_, rfl, ?_⟩
                                    rcases q424 with ⟨rfl, a425⟩ | ⟨rfl, a426⟩
                                    · have _q : True := trivial
                                      refine jx_if_ne (pc' := 123) (tg := 140) rfl rfl rfl (by decide) (by decide) (fun h427 => ?_) (fun h427 => ?_)
                                      · have _q := h427
                                        refine jx_ld (pc' := 141) (l' := L421) (st' := [.ref 66]) rfl (jl_aloadn gL421_0) ?_
                                        refine jx_ld (pc' := 142) (l' := L421) (st' := [.int (i32 (vi)), .ref 66]) rfl (jl_iloadn gL421_2) ?_
                                        refine jr_put (pc' := 145) (i := 29) (z := vi) rfl rfl (by decide) rfl rfl rfl rfl rfl rfl ?_
                                        have hW428 : Wk (uG G371 29 (vi)) A372 := Wk_g hW375 (show (0 : Int) ≤ vi by omega) (show vi ≤ (202 : Int) by omega)
                                        have hF429 := Fr_g (z := vi) (i := 29) hF380 (by decide)
                                        refine jx_ld (pc' := 147) (l' := L421) (st' := [.int (i32 (0))]) rfl (jl_iload gL421_5) ?_
                                        refine jx_rt (v := some (.int (i32 (0)))) rfl rfl rfl rfl rfl rfl ?_
                                        exact ⟨_, _, _, ln2_302, at2_300, fk2_374, nd, sy2_303, na2_304, vi, A 3 (ln2_302).toNat, rfl, rfl, hW428, hF429, hP381, by omega, ((hF376.1 9 rfl).trans (e310)), ((hF376.1 10 rfl).trans (e308)), (e378), ((hF376.1 31 rfl).trans ((hF307.1 31 rfl).trans (fx_31))), ((hF376.1 19 rfl).trans (e311)), ((hF376.1 28 rfl).trans (e312)), rfl, (congrFun ((hF376.2 3 rfl).trans ((hF307.2 3 rfl).trans (hFx.2 3 rfl))) _), by omega, by omega, by omega, by omega, by omega, by omega, by omega, by omega, by omega, by first | exact Or.inl (⟨by omega, by omega⟩) | exact Or.inr ((⟨by omega, by omega, by omega, by omega, by omega, by omega⟩))⟩
                                      · have _q := h427
                                        exact absurd h427 (by omega)
                                    · have _q : True := trivial
                                      exfalso
                                      omega
                                · have _q : True := trivial
                                  exfalso
                                  omega
                              · have _q := h414
                                exact absurd h414 (by omega)
                            · have _q : True := trivial
                              exfalso
                              omega
                          · have _q := h408
                            exact absurd h408 (by omega)
                  · have _q : True := trivial
                    refine jx_if_eq (pc' := 61) (tg := 98) rfl rfl rfl (by decide) (by decide) (fun h430 => ?_) (fun h430 => ?_)
                    · have _q := h430
                      refine jx_ld (pc' := 99) (l' := L) (st' := [.ref 66]) rfl (jl_aloadn gL_0) ?_
                      refine jx_vr (pc' := 102) (as := []) (st := []) rfl rfl rfl rfl ⟨rfl, rfl, Nat.le_of_ble_eq_true rfl⟩ rfl rfl (c_bad (dd := d) (hd := by omega) (hW := hWx)  (fk := fk1) (e_fk := show Gx 16 = fk1 from (ex_fk1))    ) (fun o V' hq => ?_)
                      obtain ⟨r431, rfl, rfl, b432, q433⟩ := hq
                      refine .inr ⟨_, rfl, ?_⟩
                      rcases q433 with ⟨rfl, a434⟩ | ⟨rfl, a435⟩
                      · have _q : True := trivial
                        exfalso
                        omega
                      · have _q : True := trivial
                        refine jx_if_eq (pc' := 105) (tg := 109) rfl rfl rfl (by decide) (by decide) (fun h436 => ?_) (fun h436 => ?_)
                        · have _q := h436
                          refine jx_ld (pc' := 110) (l' := L) (st' := [.ref 66]) rfl (jl_aloadn gL_0) ?_
                          refine jx_ld (pc' := 111) (l' := L) (st' := [.int (i32 (lv)), .ref 66]) rfl (jl_iloadn gL_1) ?_
                          refine jx_vr (pc' := 114) (as := [.int (i32 (lv))]) (st := []) rfl rfl rfl rfl ⟨rfl, rfl, Nat.le_of_ble_eq_true rfl⟩ rfl rfl (c_readStatement (dd := d) (hP := hP) (hd := by omega) (hW := hWx) (lv := lv) (ln := ln1) (e_ln := show Gx 9 = ln1 from (ex_ln1)) (li := li) (e_li := show Gx 3 = li from ((hFx.1 3 rfl).trans (e_li))) (at0 := at1) (e_at0 := show Gx 10 = at1 from (ex_at1)) (fk := fk1) (e_fk := show Gx 16 = fk1 from (ex_fk1)) (nd := nd) (e_nd := show Gx 31 = nd from (fx_31)) (sy := sy1) (e_sy := show Gx 19 = sy1 from (ex_sy1)) (na := na1) (e_na := show Gx 28 = na1 from (ex_na1)) (vi := vi1) (e_vi := show Gx 29 = vi1 from (ex_vi1)) (le := le1) (e_le := show Ax 4 (ln1).toNat = le1 from (ex_le1)) (op0 := op1) (e_op0 := show Gx 15 = op1 from (ex_op1)) (tk0 := tk1) (e_tk0 := show Gx 11 = tk1 from (ex_tk1)) (i_LT := (LT_ext ((hFx.1 3 rfl)) ((hFx.2 3 rfl)) ((hFx.2 4 rfl)) i_LT)) (h_lv := ⟨(Int.le_trans (by decide : (-2147483648 : Int) ≤ -2147483648) h_lv.1), (Int.le_trans h_lv.2 (by decide : (2147483647 : Int) ≤ 2147483647))⟩)  (p_0 := by omega) (p_1 := by omega) (p_2 := by omega) (p_3 := by omega) (p_4 := by omega) (p_5 := by omega) (p_6 := by omega) (p_7 := by omega) (p_8 := by omega)) (fun o V' hq => ?_)
                          obtain ⟨G437, A438, r439, ln2_440, at2_441, fk2_442, nd2_443, sy2_444, na2_445, vi2_446, lf2_447, rfl, rfl, hW448, hF449, hQ450, b451, e452, e453, e454, e455, e456, e457, e458, e459, p460, p461, p462, p463, p464, p465, p466, p467, p468, p469, q470⟩ := hq
                          have hF471 := Fr_tr hFx hF449 (Fr_sub (by decide)) (Fr_sub (by decide))
                          have hP472 := Pf_tr hPx hQ450 (by omega)
                          have bln2_440 : (0 : Int) ≤ ln2_440 ∧ ln2_440 ≤ 3000 := e452 ▸ hW448.1 9
                          have bat2_441 : (0 : Int) ≤ at2_441 ∧ at2_441 ≤ 3002 := e453 ▸ hW448.1 10
                          have bfk2_442 : (0 : Int) ≤ fk2_442 ∧ fk2_442 ≤ 6 := e454 ▸ hW448.1 16
                          have bnd2_443 : (0 : Int) ≤ nd2_443 ∧ nd2_443 ≤ 6999 := e455 ▸ hW448.1 31
                          have bsy2_444 : (0 : Int) ≤ sy2_444 ∧ sy2_444 ≤ 202 := e456 ▸ hW448.1 19
                          have bna2_445 : (0 : Int) ≤ na2_445 ∧ na2_445 ≤ 200 := e457 ▸ hW448.1 28
                          have bvi2_446 : (0 : Int) ≤ vi2_446 ∧ vi2_446 ≤ 202 := e458 ▸ hW448.1 29
                          have blf2_447 : (0 : Int) ≤ lf2_447 ∧ lf2_447 ≤ 3000 := e459 ▸ hW448.2 3 _
                          refine .inr ⟨_, rfl, ?_⟩
                          rcases q470 with ⟨a473, a474⟩ | ⟨a475, a476, a477, a478, a479, a480, a481⟩
                          · have _q : True := trivial
                            refine jx_ld (pc' := 116) (l' := jSto1 L 5 (.int (i32 (r439)))) (st' := []) rfl rfl ?_
                            obtain ⟨L482, eL482⟩ : ∃ q, q = jSto1 L 5 (.int (i32 (r439))) := ⟨_, rfl⟩
                            rw [← eL482]
                            have gL482_0 : jGet L482 0 = some (.ref 66) := eL482 ▸ jg_ne (by decide) gL_0 rfl
                            have gL482_1 : jGet L482 1 = some (.int (i32 (lv))) := eL482 ▸ jg_ne (by decide) gL_1 rfl
                            have gL482_2 : jGet L482 2 = some (.int (i32 (vi))) := eL482 ▸ jg_ne (by decide) gL_2 rfl
                            have gL482_3 : jGet L482 3 = some (.int (i32 (sy))) := eL482 ▸ jg_ne (by decide) gL_3 rfl
                            have gL482_4 : jGet L482 4 = some (.int (i32 (dc))) := eL482 ▸ jg_ne (by decide) gL_4 rfl
                            have gL482_5 : jGet L482 5 = some (.int (i32 (r439))) := eL482 ▸ jg_eq
                            refine jx_ld (pc' := 117) (l' := L482) (st' := [.ref 66]) rfl (jl_aloadn gL482_0) ?_
                            refine jx_vr (pc' := 120) (as := []) (st := []) rfl rfl rfl rfl ⟨rfl, rfl, Nat.le_of_ble_eq_true rfl⟩ rfl rfl (c_bad (dd := d) (hd := by omega) (hW := hW448)  (fk := fk2_442) (e_fk := show G437 16 = fk2_442 from (e454))    ) (fun o V' hq => ?_)
                            obtain ⟨r483, rfl, rfl, b484, q485⟩ := hq
                            refine .inr ⟨_, rfl, ?_⟩
                            rcases q485 with ⟨rfl, a486⟩ | ⟨rfl, a487⟩
                            · have _q : True := trivial
                              refine jx_if_ne (pc' := 123) (tg := 140) rfl rfl rfl (by decide) (by decide) (fun h488 => ?_) (fun h488 => ?_)
                              · have _q := h488
                                refine jx_ld (pc' := 141) (l' := L482) (st' := [.ref 66]) rfl (jl_aloadn gL482_0) ?_
                                refine jx_ld (pc' := 142) (l' := L482) (st' := [.int (i32 (vi)), .ref 66]) rfl (jl_iloadn gL482_2) ?_
                                refine jr_put (pc' := 145) (i := 29) (z := vi) rfl rfl (by decide) rfl rfl rfl rfl rfl rfl ?_
                                have hW489 : Wk (uG G437 29 (vi)) A438 := Wk_g hW448 (show (0 : Int) ≤ vi by omega) (show vi ≤ (202 : Int) by omega)
                                have hF490 := Fr_g (z := vi) (i := 29) hF471 (by decide)
                                refine jx_ld (pc' := 147) (l' := L482) (st' := [.int (i32 (r439))]) rfl (jl_iload gL482_5) ?_
                                refine jx_rt (v := some (.int (i32 (r439)))) rfl rfl rfl rfl rfl rfl ?_
                                exact ⟨_, _, _, ln2_440, at2_441, fk2_442, nd2_443, sy2_444, na2_445, vi, lf2_447, rfl, rfl, hW489, hF490, hP472, by omega, (e452), (e453), (e454), (e455), (e456), (e457), rfl, (e459), by omega, by omega, by omega, by omega, by omega, by omega, by omega, by omega, by omega, by first | exact Or.inl (⟨by omega, by omega⟩) | exact Or.inr ((⟨by omega, by omega, by omega, by omega, by omega, by omega⟩))⟩
                              · have _q := h488
                                exact absurd h488 (by omega)
                            · have _q : True := trivial
                              exfalso
                              omega
                          · have _q : True := trivial
                            refine jx_ld (pc' := 116) (l' := jSto1 L 5 (.int (i32 (r439)))) (st' := []) rfl rfl ?_
                            obtain ⟨L491, eL491⟩ : ∃ q, q = jSto1 L 5 (.int (i32 (r439))) := ⟨_, rfl⟩
                            rw [← eL491]
                            have gL491_0 : jGet L491 0 = some (.ref 66) := eL491 ▸ jg_ne (by decide) gL_0 rfl
                            have gL491_1 : jGet L491 1 = some (.int (i32 (lv))) := eL491 ▸ jg_ne (by decide) gL_1 rfl
                            have gL491_2 : jGet L491 2 = some (.int (i32 (vi))) := eL491 ▸ jg_ne (by decide) gL_2 rfl
                            have gL491_3 : jGet L491 3 = some (.int (i32 (sy))) := eL491 ▸ jg_ne (by decide) gL_3 rfl
                            have gL491_4 : jGet L491 4 = some (.int (i32 (dc))) := eL491 ▸ jg_ne (by decide) gL_4 rfl
                            have gL491_5 : jGet L491 5 = some (.int (i32 (r439))) := eL491 ▸ jg_eq
                            refine jx_ld (pc' := 117) (l' := L491) (st' := [.ref 66]) rfl (jl_aloadn gL491_0) ?_
                            refine jx_vr (pc' := 120) (as := []) (st := []) rfl rfl rfl rfl ⟨rfl, rfl, Nat.le_of_ble_eq_true rfl⟩ rfl rfl (c_bad (dd := d) (hd := by omega) (hW := hW448)  (fk := fk2_442) (e_fk := show G437 16 = fk2_442 from (e454))    ) (fun o V' hq => ?_)
                            obtain ⟨r492, rfl, rfl, b493, q494⟩ := hq
                            refine .inr ⟨_, rfl, ?_⟩
                            rcases q494 with ⟨rfl, a495⟩ | ⟨rfl, a496⟩
                            · have _q : True := trivial
                              exfalso
                              omega
                            · have _q : True := trivial
                              refine jx_if_ne (pc' := 123) (tg := 140) rfl rfl rfl (by decide) (by decide) (fun h497 => ?_) (fun h497 => ?_)
                              · have _q := h497
                                exact absurd h497 (by omega)
                              · have _q := h497
                                refine jx_ld (pc' := 124) (l' := L491) (st' := [.ref 66]) rfl (jl_aloadn gL491_0) ?_
                                refine jr_get (pc' := 127) (i := 40) (v := .ref 90) rfl rfl (by decide) rfl rfl ?_
                                refine jx_ld (pc' := 129) (l' := L491) (st' := [.int (i32 (r439)), .ref 90]) rfl (jl_iload gL491_5) ?_
                                refine jx_ld (pc' := 130) (l' := L491) (st' := [.int (i32 (sy)), .int (i32 (r439)), .ref 90]) rfl (jl_iloadn gL491_3) ?_
                                refine jr_st (pc' := 131) (i := 23) (m := 7000) (z := r439) (y := sy) rfl (by decide) rfl (by decide) (by omega) (by omega) rfl ?_
                                have hW499 : Wk G437 (uA A438 23 (r439).toNat (sy)) := Wk_a hW448 (show (-2147483648 : Int) ≤ sy by omega) (show sy ≤ (2147483647 : Int) by omega)
                                have hF500 := Fr_a (z := sy) (k := 23) (n := (r439).toNat) hF471 (by decide)
                                obtain ⟨A498, eA498⟩ : ∃ q, q = uA A438 23 (r439).toNat (sy) := ⟨_, rfl⟩
                                rw [← eA498]
                                rw [← eA498] at hW499 hF500
                                have q501 : A498 23 (r439).toNat = sy := by rw [eA498]; exact uA_eq
                                have hP502 : Pf nd A A498 := eA498 ▸ Pf_a hP472 (z := r439) (by omega) (by omega)
                                refine jx_ld (pc' := 132) (l' := L491) (st' := [.ref 66]) rfl (jl_aloadn gL491_0) ?_
                                refine jr_get (pc' := 135) (i := 41) (v := .ref 91) rfl rfl (by decide) rfl rfl ?_
                                refine jx_ld (pc' := 137) (l' := L491) (st' := [.int (i32 (r439)), .ref 91]) rfl (jl_iload gL491_5) ?_
                                refine jx_ld (pc' := 139) (l' := L491) (st' := [.int (i32 (dc)), .int (i32 (r439)), .ref 91]) rfl (jl_iload gL491_4) ?_
                                refine jr_st (pc' := 140) (i := 24) (m := 7000) (z := r439) (y := dc) rfl (by decide) rfl (by decide) (by omega) (by omega) rfl ?_
                                have hW504 : Wk G437 (uA A498 24 (r439).toNat (dc)) := Wk_a hW499 (show (-2147483648 : Int) ≤ dc by omega) (show dc ≤ (2147483647 : Int) by omega)
                                have hF505 := Fr_a (z := dc) (k := 24) (n := (r439).toNat) hF500 (by decide)
                                obtain ⟨A503, eA503⟩ : ∃ q, q = uA A498 24 (r439).toNat (dc) := ⟨_, rfl⟩
                                rw [← eA503]
                                rw [← eA503] at hW504 hF505
                                have q506 : A503 24 (r439).toNat = dc := by rw [eA503]; exact uA_eq
                                have hP507 : Pf nd A A503 := eA503 ▸ Pf_a hP502 (z := r439) (by omega) (by omega)
                                refine jx_ld (pc' := 141) (l' := L491) (st' := [.ref 66]) rfl (jl_aloadn gL491_0) ?_
                                refine jx_ld (pc' := 142) (l' := L491) (st' := [.int (i32 (vi)), .ref 66]) rfl (jl_iloadn gL491_2) ?_
                                refine jr_put (pc' := 145) (i := 29) (z := vi) rfl rfl (by decide) rfl rfl rfl rfl rfl rfl ?_
                                have hW508 : Wk (uG G437 29 (vi)) A503 := Wk_g hW504 (show (0 : Int) ≤ vi by omega) (show vi ≤ (202 : Int) by omega)
                                have hF509 := Fr_g (z := vi) (i := 29) hF505 (by decide)
                                refine jx_ld (pc' := 147) (l' := L491) (st' := [.int (i32 (r439))]) rfl (jl_iload gL491_5) ?_
                                refine jx_rt (v := some (.int (i32 (r439)))) rfl rfl rfl rfl rfl rfl ?_
                                exact ⟨_, _, _, ln2_440, at2_441, fk2_442, nd2_443, sy2_444, na2_445, vi, lf2_447, rfl, rfl, hW508, hF509, hP507, by omega, (e452), (e453), (e454), (e455), (e456), (e457), rfl, (congrFun (((congrFun eA503 3).trans (uA_ne (by decide))).trans ((congrFun eA498 3).trans (uA_ne (by decide)))) _).trans (e459), by omega, by omega, by omega, by omega, by omega, by omega, by omega, by omega, by omega, by first | exact Or.inl (⟨by omega, by omega⟩) | exact Or.inr ((⟨by omega, by omega, by omega, by omega, by omega, by omega⟩))⟩
                        · have _q := h436
                          exact absurd h436 (by omega)
                    · have _q := h430
                      exact absurd h430 (by omega)
  refine jx_ld (pc' := 1) (l' := [(0, .ref 66), (1, .int (i32 (lv)))]) (st' := [.ref 66]) rfl (jl_aloadn rfl) ?_
  refine jx_ld (pc' := 2) (l' := [(0, .ref 66), (1, .int (i32 (lv)))]) (st' := [.int (i32 (lv)), .ref 66]) rfl (jl_iloadn rfl) ?_
  have b510 : (-1 : Int) ≤ A 5 (ln).toNat ∧ A 5 (ln).toNat ≤ 15 := hW.2 5 _
  refine jx_vr (pc' := 5) (as := [.int (i32 (lv))]) (st := []) rfl rfl rfl rfl ⟨rfl, rfl, Nat.le_of_ble_eq_true rfl⟩ rfl rfl (c_needLevel (dd := d) (hd := by omega) (hW := hW) (lv := lv) (ln := ln) (e_ln := show G 9 = ln from (e_ln)) (li := li) (e_li := show G 3 = li from (e_li)) (fk := fk) (e_fk := show G 16 = fk from (e_fk)) (ll := A 5 (ln).toNat) (e_ll := show A 5 (ln).toNat = A 5 (ln).toNat from rfl)  (h_lv := ⟨(Int.le_trans (by decide : (-2147483648 : Int) ≤ -2147483648) h_lv.1), (Int.le_trans h_lv.2 (by decide : (2147483647 : Int) ≤ 2147483647))⟩)  ) (fun o V' hq => ?_)
  obtain ⟨G511, A512, r513, fk2_514, rfl, rfl, hW515, hF516, b517, e518, q519⟩ := hq
  have hF520 := Fr_tr hF0 hF516 (Fr_sub (by decide)) (Fr_sub (by decide))
  have hP521 := Pf_f hP0 hF516 (by decide)
  have bfk2_514 : (0 : Int) ≤ fk2_514 ∧ fk2_514 ≤ 6 := e518 ▸ hW515.1 16
  refine .inr ⟨_, rfl, ?_⟩
  rcases q519 with ⟨rfl, a522, a523, a524, a525⟩ | ⟨rfl, a526⟩
  · have _q : True := trivial
    have b527 : (0 : Int) ≤ A 4 (ln).toNat ∧ A 4 (ln).toNat ≤ 3000 := hW.2 4 _
    have lt528 : lf < A 4 (ln).toNat := LT_at (LT_ext ((hF516.1 3 rfl)) ((hF516.2 3 rfl)) ((hF516.2 4 rfl)) i_LT) (show G511 3 = li from ((hF516.1 3 rfl).trans (e_li))) (show A512 3 (ln).toNat = lf from (congrFun (hF516.2 3 rfl) _).trans (e_lf)) (show A512 4 (ln).toNat = A 4 (ln).toNat from (congrFun (hF516.2 4 rfl) _)) (by omega) (by omega)
    refine jx_if_ne (pc' := 8) (tg := 10) rfl rfl rfl (by decide) (by decide) (fun h529 => ?_) (fun h529 => ?_)
    · have _q := h529
      refine jx_ld (pc' := 11) (l' := [(0, .ref 66), (1, .int (i32 (lv)))]) (st' := [.ref 66]) rfl (jl_aloadn rfl) ?_
      refine jr_get (pc' := 14) (i := 29) (v := .int (i32 (vi))) rfl rfl (by decide) (rFv_eq (by decide) (show G511 29 = vi from ((hF516.1 29 rfl).trans (e_vi)))) rfl ?_
      refine jx_ld (pc' := 15) (l' := jSto1 [(0, .ref 66), (1, .int (i32 (lv)))] 2 (.int (i32 (vi)))) (st' := []) rfl rfl ?_
      obtain ⟨L530, eL530⟩ : ∃ q, q = jSto1 [(0, .ref 66), (1, .int (i32 (lv)))] 2 (.int (i32 (vi))) := ⟨_, rfl⟩
      rw [← eL530]
      have gL530_0 : jGet L530 0 = some (.ref 66) := eL530 ▸ jg_ne (by decide) (rfl : jGet [(0, .ref 66), (1, .int (i32 (lv)))] 0 = some (.ref 66)) rfl
      have gL530_1 : jGet L530 1 = some (.int (i32 (lv))) := eL530 ▸ jg_ne (by decide) (rfl : jGet [(0, .ref 66), (1, .int (i32 (lv)))] 1 = some (.int (i32 (lv)))) rfl
      have gL530_2 : jGet L530 2 = some (.int (i32 (vi))) := eL530 ▸ jg_eq
      refine jx_ld (pc' := 16) (l' := L530) (st' := [.ref 66]) rfl (jl_aloadn gL530_0) ?_
      refine jr_get (pc' := 19) (i := 19) (v := .int (i32 (sy))) rfl rfl (by decide) (rFv_eq (by decide) (show G511 19 = sy from ((hF516.1 19 rfl).trans (e_sy)))) rfl ?_
      refine jx_ld (pc' := 20) (l' := jSto1 L530 3 (.int (i32 (sy)))) (st' := []) rfl rfl ?_
      obtain ⟨L531, eL531⟩ : ∃ q, q = jSto1 L530 3 (.int (i32 (sy))) := ⟨_, rfl⟩
      rw [← eL531]
      have gL531_0 : jGet L531 0 = some (.ref 66) := eL531 ▸ jg_ne (by decide) gL530_0 rfl
      have gL531_1 : jGet L531 1 = some (.int (i32 (lv))) := eL531 ▸ jg_ne (by decide) gL530_1 rfl
      have gL531_2 : jGet L531 2 = some (.int (i32 (vi))) := eL531 ▸ jg_ne (by decide) gL530_2 rfl
      have gL531_3 : jGet L531 3 = some (.int (i32 (sy))) := eL531 ▸ jg_eq
      refine jx_ar (pc' := 21) (st' := [.int (i32 (0))]) rfl rfl rfl rfl ?_
      refine jx_ld (pc' := 23) (l' := jSto1 L531 4 (.int (i32 (0)))) (st' := []) rfl rfl ?_
      obtain ⟨L532, eL532⟩ : ∃ q, q = jSto1 L531 4 (.int (i32 (0))) := ⟨_, rfl⟩
      rw [← eL532]
      have gL532_0 : jGet L532 0 = some (.ref 66) := eL532 ▸ jg_ne (by decide) gL531_0 rfl
      have gL532_1 : jGet L532 1 = some (.int (i32 (lv))) := eL532 ▸ jg_ne (by decide) gL531_1 rfl
      have gL532_2 : jGet L532 2 = some (.int (i32 (vi))) := eL532 ▸ jg_ne (by decide) gL531_2 rfl
      have gL532_3 : jGet L532 3 = some (.int (i32 (sy))) := eL532 ▸ jg_ne (by decide) gL531_3 rfl
      have gL532_4 : jGet L532 4 = some (.int (i32 (0))) := eL532 ▸ jg_eq
      refine jx_ld (pc' := 24) (l' := L532) (st' := [.ref 66]) rfl (jl_aloadn gL532_0) ?_
      refine jx_vr (pc' := 27) (as := []) (st := []) rfl rfl rfl rfl ⟨rfl, rfl, Nat.le_of_ble_eq_true rfl⟩ rfl rfl (c_openLine (dd := d) (hd := by omega) (hW := hW515)  (ln := ln) (e_ln := show G511 9 = ln from ((hF516.1 9 rfl).trans (e_ln))) (le := A 4 (ln).toNat) (e_le := show A512 4 (ln).toNat = A 4 (ln).toNat from (congrFun (hF516.2 4 rfl) _)) (lf := lf) (e_lf := show A512 3 (ln).toNat = lf from (congrFun (hF516.2 3 rfl) _).trans (e_lf))    (p_0 := by omega)) (fun o V' hq => ?_)
      obtain ⟨G533, A534, at2_535, tk2_536, op2_537, rfl, rfl, hW538, hF539, e540, e541, e542, p543, p544, p545, p546, -⟩ := hq
      have hF548 := Fr_tr hF520 hF539 (Fr_sub (by decide)) (Fr_sub (by decide))
      have hP549 := Pf_f hP521 hF539 (by decide)
      have bat2_535 : (0 : Int) ≤ at2_535 ∧ at2_535 ≤ 3002 := e540 ▸ hW538.1 10
      have ztk2_536 := tz_b tk2_536
      have btk2_536 : (0 : Int) ≤ tk2_536 ∧ tk2_536 ≤ 5 := e541 ▸ hW538.1 11
      have bop2_537 : (-2147483648 : Int) ≤ op2_537 ∧ op2_537 ≤ 2147483647 := e542 ▸ hW538.1 15
      refine .inl ⟨rfl, ?_⟩
      have z550 := tz_f (tk2_536)
      exact at_27 _ L532 G533 A534 (0) (ln) (at2_535) (tk2_536) (fk2_514) (op2_537) (sy) (na) (vi) (A 4 (ln).toNat) rfl gL532_0 gL532_1 gL532_2 gL532_3 gL532_4 hW538 hF548 hP549 (((hF539.1 9 rfl).trans ((hF516.1 9 rfl).trans (e_ln)))) ((e540)) ((e541)) (((hF539.1 16 rfl).trans (e518))) ((e542)) (((hF539.1 19 rfl).trans ((hF516.1 19 rfl).trans (e_sy)))) (((hF539.1 28 rfl).trans ((hF516.1 28 rfl).trans (e_na)))) (((hF539.1 29 rfl).trans ((hF516.1 29 rfl).trans (e_vi)))) ((congrFun ((hF539.2 4 rfl).trans (hF516.2 4 rfl)) _)) (((hF539.1 31 rfl).trans ((hF516.1 31 rfl).trans (e_nd)))) (by omega) (by omega) (by omega) (by omega) (by omega) (by omega) (by omega) (by omega) (by omega) (by omega) (by omega) (by omega) (by omega)
    · have _q := h529
      exact absurd h529 (by omega)
  · have _q : True := trivial
    refine jx_if_ne (pc' := 8) (tg := 10) rfl rfl rfl (by decide) (by decide) (fun h551 => ?_) (fun h551 => ?_)
    · have _q := h551
      exact absurd h551 (by omega)
    · have _q := h551
      refine jx_ar (pc' := 9) (st' := [.int (i32 (0))]) rfl rfl rfl rfl ?_
      refine jx_rt (v := some (.int (i32 (0)))) rfl rfl rfl rfl rfl rfl ?_
      exact ⟨_, _, _, ln, ac, fk2_514, nd, sy, na, vi, lf, rfl, rfl, hW515, hF520, hP521, by omega, ((hF516.1 9 rfl).trans (e_ln)), ((hF516.1 10 rfl).trans (e_ac)), (e518), ((hF516.1 31 rfl).trans (e_nd)), ((hF516.1 19 rfl).trans (e_sy)), ((hF516.1 28 rfl).trans (e_na)), ((hF516.1 29 rfl).trans (e_vi)), (congrFun (hF516.2 3 rfl) _).trans (e_lf), by omega, by omega, by omega, by omega, by omega, by omega, by omega, by omega, by omega, by first | exact Or.inl (⟨by omega, by omega⟩) | exact Or.inr ((⟨by omega, by omega, by omega, by omega, by omega, by omega⟩))⟩
set_option maxRecDepth 20000 in
set_option maxHeartbeats 4000000 in
theorem c_readProcess_0 {X : jX} {dd : Nat} {c0 c1 : jC} {G : Nat → Int} {A : Nat → Nat → Int} {T : jH} {lv : Int} {at0 : Int} {ln li fk nd sy na vi lf ac : Int} (hd : 8 * 0 + 80 ≤ dd) (hW : Wk G A) (e_ln : G 9 = ln) (e_li : G 3 = li) (e_fk : G 16 = fk) (e_nd : G 31 = nd) (e_sy : G 19 = sy) (e_na : G 28 = na) (e_vi : G 29 = vi) (e_lf : A 3 (ln).toNat = lf) (e_ac : G 10 = ac) (i_LT : LT G A) (h_lv : (-2147483648 : Int) ≤ lv ∧ lv ≤ 2147483647) (p_0 : 0 ≤ lv ∧ lv ≤ 40) (p_1 : 18 - lv ≤ ((0 : Nat) : Int)) (p_2 : fk = 0) (p_3 : ln ≤ li) (p_4 : at0 < lf ∨ li ≤ ln) (p_5 : nd ≤ 2 * at0 + 32) (p_6 : sy ≤ na + 2) (p_7 : vi ≤ sy) (p_8 : at0 ≤ ac) (p_9 : -1 ≤ at0) : wk X dd 292 [.ref 66, .int (i32 lv)] (rV c0 c1 G A T) (fun o V' => ∃ (G' : Nat → Int) (A' : Nat → Nat → Int) (r : Int) (ln2 : Int) (at2 : Int) (fk2 : Int) (nd2 : Int) (sy2 : Int) (na2 : Int) (vi2 : Int) (lf2 : Int), V' = rV c0 c1 G' A' T ∧ o = .inl (some (.int (i32 r))) ∧ Wk G' A' ∧ Fr [9, 10, 11, 12, 13, 14, 15, 16, 17, 18, 19, 28, 29, 31] [6, 7, 8, 9, 10, 11, 12, 14, 15, 16, 17, 18, 19, 20, 21, 22, 23, 24, 28] G A G' A' ∧ Pf nd A A' ∧ ((-2147483648 : Int) ≤ r ∧ r ≤ 2147483647) ∧ G' 9 = ln2 ∧ G' 10 = at2 ∧ G' 16 = fk2 ∧ G' 31 = nd2 ∧ G' 19 = sy2 ∧ G' 28 = na2 ∧ G' 29 = vi2 ∧ A' 3 (ln2).toNat = lf2 ∧ (at0 ≤ at2) ∧ (nd ≤ nd2) ∧ (sy ≤ sy2) ∧ (sy2 ≤ na2 + 2) ∧ (vi2 = vi) ∧ (0 ≤ r) ∧ (r ≤ 6999) ∧ (ln ≤ ln2) ∧ (ln2 ≤ li) ∧ (((1 ≤ fk2) ∧ (nd2 - nd ≤ 2 * at2 - 2 * at0 + 12)) ∨ ((fk2 = 0) ∧ (ln < ln2) ∧ (nd2 - nd ≤ 2 * at2 - 2 * at0) ∧ (at2 < lf2 ∨ li ≤ ln2) ∧ (nd ≤ r) ∧ (r < nd2)))) := by
  obtain ⟨d, rfl⟩ : ∃ d, dd = d + 1 := ⟨dd - 1, by omega⟩
  refine wk_of (e := jm292) rfl (Nat.le_of_ble_eq_true rfl) ?_
  show wj X d jm292 (0, [(0, .ref 66), (1, .int (i32 (lv)))], [], rV c0 c1 G A T) _
  have hF0 : Fr [9, 10, 11, 12, 13, 14, 15, 16, 17, 18, 19, 28, 29, 31] [6, 7, 8, 9, 10, 11, 12, 14, 15, 16, 17, 18, 19, 20, 21, 22, 23, 24, 28] G A G A := Fr_rf
  have hP0 : Pf nd A A := Pf_rf
  have b_ln : (0 : Int) ≤ ln ∧ ln ≤ 3000 := e_ln ▸ hW.1 9
  have b_li : (0 : Int) ≤ li ∧ li ≤ 3000 := e_li ▸ hW.1 3
  have b_fk : (0 : Int) ≤ fk ∧ fk ≤ 6 := e_fk ▸ hW.1 16
  have b_nd : (0 : Int) ≤ nd ∧ nd ≤ 6999 := e_nd ▸ hW.1 31
  have b_sy : (0 : Int) ≤ sy ∧ sy ≤ 202 := e_sy ▸ hW.1 19
  have b_na : (0 : Int) ≤ na ∧ na ≤ 200 := e_na ▸ hW.1 28
  have b_vi : (0 : Int) ≤ vi ∧ vi ≤ 202 := e_vi ▸ hW.1 29
  have b_lf : (0 : Int) ≤ lf ∧ lf ≤ 3000 := e_lf ▸ hW.2 3 _
  have b_ac : (0 : Int) ≤ ac ∧ ac ≤ 3002 := e_ac ▸ hW.1 10
  refine jx_ld (pc' := 1) (l' := [(0, .ref 66), (1, .int (i32 (lv)))]) (st' := [.ref 66]) rfl (jl_aloadn rfl) ?_
  refine jx_ld (pc' := 2) (l' := [(0, .ref 66), (1, .int (i32 (lv)))]) (st' := [.int (i32 (lv)), .ref 66]) rfl (jl_iloadn rfl) ?_
  have b1 : (-1 : Int) ≤ A 5 (ln).toNat ∧ A 5 (ln).toNat ≤ 15 := hW.2 5 _
  refine jx_vr (pc' := 5) (as := [.int (i32 (lv))]) (st := []) rfl rfl rfl rfl ⟨rfl, rfl, Nat.le_of_ble_eq_true rfl⟩ rfl rfl (c_needLevel (dd := d) (hd := by omega) (hW := hW) (lv := lv) (ln := ln) (e_ln := show G 9 = ln from (e_ln)) (li := li) (e_li := show G 3 = li from (e_li)) (fk := fk) (e_fk := show G 16 = fk from (e_fk)) (ll := A 5 (ln).toNat) (e_ll := show A 5 (ln).toNat = A 5 (ln).toNat from rfl)  (h_lv := ⟨(Int.le_trans (by decide : (-2147483648 : Int) ≤ -2147483648) h_lv.1), (Int.le_trans h_lv.2 (by decide : (2147483647 : Int) ≤ 2147483647))⟩)  ) (fun o V' hq => ?_)
  obtain ⟨G2, A3, r4, fk2_5, rfl, rfl, hW6, hF7, b8, e9, q10⟩ := hq
  have hF11 := Fr_tr hF0 hF7 (Fr_sub (by decide)) (Fr_sub (by decide))
  have hP12 := Pf_f hP0 hF7 (by decide)
  have bfk2_5 : (0 : Int) ≤ fk2_5 ∧ fk2_5 ≤ 6 := e9 ▸ hW6.1 16
  refine .inr ⟨_, rfl, ?_⟩
  rcases q10 with ⟨rfl, a13, a14, a15, a16⟩ | ⟨rfl, a17⟩
  · have _q : True := trivial
    have b18 : (0 : Int) ≤ A 4 (ln).toNat ∧ A 4 (ln).toNat ≤ 3000 := hW.2 4 _
    have lt19 : lf < A 4 (ln).toNat := LT_at (LT_ext ((hF7.1 3 rfl)) ((hF7.2 3 rfl)) ((hF7.2 4 rfl)) i_LT) (show G2 3 = li from ((hF7.1 3 rfl).trans (e_li))) (show A3 3 (ln).toNat = lf from (congrFun (hF7.2 3 rfl) _).trans (e_lf)) (show A3 4 (ln).toNat = A 4 (ln).toNat from (congrFun (hF7.2 4 rfl) _)) (by omega) (by omega)
    refine jx_if_ne (pc' := 8) (tg := 10) rfl rfl rfl (by decide) (by decide) (fun h20 => ?_) (fun h20 => ?_)
    · have _q := h20
      exfalso
      omega
    · have _q := h20
      exact absurd h20 (by omega)
  · have _q : True := trivial
    refine jx_if_ne (pc' := 8) (tg := 10) rfl rfl rfl (by decide) (by decide) (fun h21 => ?_) (fun h21 => ?_)
    · have _q := h21
      exact absurd h21 (by omega)
    · have _q := h21
      refine jx_ar (pc' := 9) (st' := [.int (i32 (0))]) rfl rfl rfl rfl ?_
      refine jx_rt (v := some (.int (i32 (0)))) rfl rfl rfl rfl rfl rfl ?_
      exact ⟨_, _, _, ln, ac, fk2_5, nd, sy, na, vi, lf, rfl, rfl, hW6, hF11, hP12, by omega, ((hF7.1 9 rfl).trans (e_ln)), ((hF7.1 10 rfl).trans (e_ac)), (e9), ((hF7.1 31 rfl).trans (e_nd)), ((hF7.1 19 rfl).trans (e_sy)), ((hF7.1 28 rfl).trans (e_na)), ((hF7.1 29 rfl).trans (e_vi)), (congrFun (hF7.2 3 rfl) _).trans (e_lf), by omega, by omega, by omega, by omega, by omega, by omega, by omega, by omega, by omega, by first | exact Or.inl (⟨by omega, by omega⟩) | exact Or.inr ((⟨by omega, by omega, by omega, by omega, by omega, by omega⟩))⟩
theorem RP_all (X : jX) : ∀ k, RP X k
  | 0 => @c_readProcess_0 X
  | k + 1 => @c_readProcess_s X k (RP_all X k)

