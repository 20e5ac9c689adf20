set_option maxRecDepth 20000 in
set_option maxHeartbeats 4000000 in
theorem c_readProcess_s_w_at_27 {X : jX} {k : Nat} (hP : RPw X k) {d : Nat} {Vs : Nat → Prop} {sb pb : Int} (hvb : VB Vs sb) {c0 c1 : jC} {G : Nat → Int} {A : Nat → Nat → Int} {T : jH} {lv : Int} {at0 : Int} {ln li fk nd sy na vi lf ac ec : Int} (hd : 8 * (k + 1) + 80 ≤ d + 1) (hW : Wk G A) (e_ln : G 9 = ln) (e_li : G 3 = li) (e_fk : G 16 = fk) (e_nd : G 31 = nd) (e_sy : G 19 = sy) (e_na : G 28 = na) (e_vi : G 29 = vi) (e_lf : A 3 (ln).toNat = lf) (e_ac : G 10 = ac) (e_ec : ecn A (G 31) = ec) (i_LT : LT G A) (i_SV : SV Vs sb G A) (i_PQ : PQ Vs sb pb G A) (h_lv : (-2147483648 : Int) ≤ lv ∧ lv ≤ 2147483647) (p_0 : 0 ≤ lv ∧ lv ≤ 40) (p_1 : 18 - lv ≤ ((k + 1 : Nat) : Int)) (p_2 : fk = 0) (p_3 : ln ≤ li) (p_4 : at0 < lf ∨ li ≤ ln) (p_5 : nd ≤ 2 * at0 + 32) (p_6 : sy ≤ na + 2) (p_7 : vi ≤ sy) (p_8 : at0 ≤ ac) (p_9 : -1 ≤ at0) (p_10 : sb ≤ sy) : ∀ (m : Nat) (L : jL) (Gx : Nat → Int) (Ax : Nat → Nat → Int) (dc ln1 at1 tk1 fk1 op1 sy1 na1 vi1 le1 : Int), (li - ln1).toNat = m → jGet L 0 = some (.ref 66) → jGet L 1 = some (.int (i32 (lv))) → jGet L 2 = some (.int (i32 (vi))) → jGet L 3 = some (.int (i32 (sy))) → jGet L 4 = some (.int (i32 dc)) → Wk Gx Ax → Fr [9, 10, 11, 12, 13, 14, 15, 16, 17, 18, 19, 28, 29, 31] [6, 7, 8, 9, 10, 11, 12, 14, 15, 16, 17, 18, 19, 20, 21, 22, 23, 24, 28] G A Gx Ax → Pf nd A Ax → Fx sr (sy) A Ax → Fx [14] (vi) A Ax → Gx 9 = ln1 → Gx 10 = at1 → Gx 11 = tk1 → Gx 16 = fk1 → Gx 15 = op1 → Gx 19 = sy1 → Gx 28 = na1 → Gx 29 = vi1 → Ax 4 (ln1).toNat = le1 → Gx 31 = nd → ecn Ax (Gx 31) = ec → ((-2147483648 : Int) ≤ dc ∧ dc ≤ 2147483647) → (fk1 = 0) → (lv ≤ 15) → (ln ≤ ln1) → (ln1 < li) → (at1 ≤ le1) → (2 * at0 + 2 ≤ 2 * at1 - tz tk1) → (op1 = 0) → (sy ≤ sy1) → (sy1 ≤ na1 + 2) → (vi ≤ vi1) → (vi1 ≤ sy1) → (dc = sy1 - sy) → (wD Ax (sy) (sy1)) → (DS Ax (vi) (vi1) (sy) (sy1)) → wj X d jm292 (27, L, [], rV c0 c1 Gx Ax T) (fun o V_q => ∃ (G_q : Nat → Int) (A_q : Nat → Nat → Int) (r : Int) (ln2 : Int) (at2 : Int) (fk2 : Int) (nd2 : Int) (sy2 : Int) (na2 : Int) (vi2 : Int) (lf2 : Int) (ec2 : Int), V_q = rV c0 c1 G_q A_q T ∧ o = .inl (some (.int (i32 r))) ∧ Wk G_q A_q ∧ Fr [9, 10, 11, 12, 13, 14, 15, 16, 17, 18, 19, 28, 29, 31] [6, 7, 8, 9, 10, 11, 12, 14, 15, 16, 17, 18, 19, 20, 21, 22, 23, 24, 28] G A G_q A_q ∧ Pf nd A A_q ∧ Fx sr (sy) A A_q ∧ Fx [14] (vi) A A_q ∧ ((-2147483648 : Int) ≤ r ∧ r ≤ 2147483647) ∧ G_q 9 = ln2 ∧ G_q 10 = at2 ∧ G_q 16 = fk2 ∧ G_q 31 = nd2 ∧ G_q 19 = sy2 ∧ G_q 28 = na2 ∧ G_q 29 = vi2 ∧ A_q 3 (ln2).toNat = lf2 ∧ ecn A_q (G_q 31) = ec2 ∧ (at0 ≤ at2) ∧ (nd ≤ nd2) ∧ (sy ≤ sy2) ∧ (sy2 ≤ na2 + 2) ∧ (vi2 = vi) ∧ (0 ≤ r) ∧ (r ≤ 6999) ∧ (ln ≤ ln2) ∧ (ln2 ≤ li) ∧ (((1 ≤ fk2) ∧ (nd2 - nd ≤ 2 * at2 - 2 * at0 + 12)) ∨ ((fk2 = 0) ∧ (ln < ln2) ∧ (nd2 - nd ≤ 2 * at2 - 2 * at0) ∧ (at2 < lf2 ∨ li ≤ ln2) ∧ (nd ≤ r) ∧ (r < nd2) ∧ (wP A_q (sy2) pb (k + 1) (Vs) (r) (nd) (nd2) (sy) (sy2)) ∧ (NX A_q (r)) ∧ (nd2 - nd + 5 * (ec2 - ec) ≤ 2 * at2 - 2 * at0) ∧ (NdM A_q (nd) (nd2) (sy))))) := by
  have hF0 : Fr [9, 10, 11, 12, 13, 14, 15, 16, 17, 18, 19, 28, 29, 31] [6, 7, 8, 9, 10, 11, 12, 14, 15, 16, 17, 18, 19, 20, 21, 22, 23, 24, 28] G A G A := Fr_rf
  have hP0 : Pf nd A A := Pf_rf
  have hS0 : Fx sr (sy) A A := Fx_rf
  have hV0 : Fx [14] (vi) A A := Fx_rf
  have b_ln : (0 : Int) ≤ ln ∧ ln ≤ 3000 := e_ln ▸ hW.1 9
  have b_li : (0 : Int) ≤ li ∧ li ≤ 3000 := e_li ▸ hW.1 3
  have b_fk : (0 : Int) ≤ fk ∧ fk ≤ 6 := e_fk ▸ hW.1 16
  have b_nd : (0 : Int) ≤ nd ∧ nd ≤ 6999 := e_nd ▸ hW.1 31
  have b_sy : (0 : Int) ≤ sy ∧ sy ≤ 202 := e_sy ▸ hW.1 19
  have b_na : (0 : Int) ≤ na ∧ na ≤ 200 := e_na ▸ hW.1 28
  have b_vi : (0 : Int) ≤ vi ∧ vi ≤ 202 := e_vi ▸ hW.1 29
  have b_lf : (0 : Int) ≤ lf ∧ lf ≤ 3000 := e_lf ▸ hW.2 3 _
  have b_ac : (0 : Int) ≤ ac ∧ ac ≤ 3002 := e_ac ▸ hW.1 10
  intro m
  induction m using Nat.strongRecOn with
  | ind m ih27 =>
    intro L Gx Ax dc ln1 at1 tk1 fk1 op1 sy1 na1 vi1 le1 hm gL_0 gL_1 gL_2 gL_3 gL_4 hWx hFx hPx hSx hVx ex_ln1 ex_at1 ex_tk1 ex_fk1 ex_op1 ex_sy1 ex_na1 ex_vi1 ex_le1 fx_31 fx_900 rx_dc iv_0 iv_1 iv_2 iv_3 iv_4 iv_5 iv_6 iv_7 iv_8 iv_9 iv_10 iv_11 iv_12 iv_13
    have b_ln1 : (0 : Int) ≤ ln1 ∧ ln1 ≤ 3000 := ex_ln1 ▸ hWx.1 9
    have b_at1 : (0 : Int) ≤ at1 ∧ at1 ≤ 3002 := ex_at1 ▸ hWx.1 10
    have z_tk1 := tz_f tk1
    have b_tk1 : (0 : Int) ≤ tk1 ∧ tk1 ≤ 5 := ex_tk1 ▸ hWx.1 11
    have b_fk1 : (0 : Int) ≤ fk1 ∧ fk1 ≤ 6 := ex_fk1 ▸ hWx.1 16
    have b_op1 : (-2147483648 : Int) ≤ op1 ∧ op1 ≤ 2147483647 := ex_op1 ▸ hWx.1 15
    have b_sy1 : (0 : Int) ≤ sy1 ∧ sy1 ≤ 202 := ex_sy1 ▸ hWx.1 19
    have b_na1 : (0 : Int) ≤ na1 ∧ na1 ≤ 200 := ex_na1 ▸ hWx.1 28
    have b_vi1 : (0 : Int) ≤ vi1 ∧ vi1 ≤ 202 := ex_vi1 ▸ hWx.1 29
    refine jx_ld (pc_q := 28) (l_q := L) (st_q := [.ref 66]) rfl (jl_aloadn gL_0) ?_
    refine jx_vr (pc_q := 31) (as := []) (st := []) rfl rfl rfl rfl ⟨rfl, rfl, Nat.le_of_ble_eq_true rfl⟩ rfl rfl (c_bad (dd := d) (hd := by omega) (hW := hWx)  (fk := fk1) (e_fk := show Gx 16 = fk1 from (ex_fk1))    ) (fun o V_q hq => ?_)
    obtain ⟨r1, rfl, rfl, b2, q3⟩ := hq
    refine .inr ⟨_, rfl, ?_⟩
    rcases q3 with ⟨rfl, a4⟩ | ⟨rfl, a5⟩
    · have _q : True := trivial
      exfalso
      omega
    · have _q : True := trivial
      refine jx_if_ne (pc_q := 34) (tg := 98) rfl rfl rfl (by decide) (by decide) (fun h6 => ?_) (fun h6 => ?_)
      · have _q := h6
        exact absurd h6 (by omega)
      · have _q := h6
        refine jx_ld (pc_q := 35) (l_q := L) (st_q := [.ref 66]) rfl (jl_aloadn gL_0) ?_
        refine jx_ar (pc_q := 37) (st_q := [.int (i32 (9)), .ref 66]) rfl rfl rfl rfl ?_
        have b7 : (-2147483648 : Int) ≤ Gx 13 ∧ Gx 13 ≤ 2147483647 := hWx.1 13
        refine jx_vr (pc_q := 40) (as := [.int (i32 (9))]) (st := []) rfl rfl rfl rfl ⟨rfl, rfl, Nat.le_of_ble_eq_true rfl⟩ rfl rfl (c_isKey (dd := d) (hd := by omega) (hW := hWx) (k := 9) (tk := tk1) (e_tk := show Gx 11 = tk1 from (ex_tk1)) (tn := Gx 13) (e_tn := show Gx 13 = Gx 13 from rfl)  (h_k := ⟨(by decide), (by decide)⟩)  ) (fun o V_q hq => ?_)
        obtain ⟨r8, rfl, rfl, b9, q10⟩ := hq
        refine .inr ⟨_, rfl, ?_⟩
        rcases q10 with ⟨rfl, a11, a12, a13⟩ | rfl
        · have _q : True := trivial
          refine jx_if_ne (pc_q := 43) (tg := 61) rfl rfl rfl (by decide) (by decide) (fun h14 => ?_) (fun h14 => ?_)
          · have _q := h14
            refine jx_ld (pc_q := 62) (l_q := L) (st_q := [.ref 66]) rfl (jl_aloadn gL_0) ?_
            refine jr_get (pc_q := 65) (i := 19) (v := .int (i32 (sy1))) rfl rfl (by decide) (rFv_eq (by decide) (show Gx 19 = sy1 from (ex_sy1))) rfl ?_
            refine jx_ld (pc_q := 67) (l_q := jSto1 L 5 (.int (i32 (sy1)))) (st_q := []) rfl rfl ?_
            obtain ⟨L15, eL15⟩ : ∃ q, q = jSto1 L 5 (.int (i32 (sy1))) := ⟨_, rfl⟩
            rw [← eL15]
            have gL15_0 : jGet L15 0 = some (.ref 66) := eL15 ▸ jg_ne (by decide) gL_0 rfl
            have gL15_1 : jGet L15 1 = some (.int (i32 (lv))) := eL15 ▸ jg_ne (by decide) gL_1 rfl
            have gL15_2 : jGet L15 2 = some (.int (i32 (vi))) := eL15 ▸ jg_ne (by decide) gL_2 rfl
            have gL15_3 : jGet L15 3 = some (.int (i32 (sy))) := eL15 ▸ jg_ne (by decide) gL_3 rfl
            have gL15_4 : jGet L15 4 = some (.int (i32 (dc))) := eL15 ▸ jg_ne (by decide) gL_4 rfl
            have gL15_5 : jGet L15 5 = some (.int (i32 (sy1))) := eL15 ▸ jg_eq
            refine jx_ld (pc_q := 68) (l_q := L15) (st_q := [.ref 66]) rfl (jl_aloadn gL15_0) ?_
            refine jx_vr (pc_q := 71) (as := []) (st := []) rfl rfl rfl rfl ⟨rfl, rfl, Nat.le_of_ble_eq_true rfl⟩ rfl rfl (c_readDeclaration (dd := d) (hd := by omega) (hW := hWx)  (ln := ln1) (e_ln := show Gx 9 = ln1 from (ex_ln1)) (le := le1) (e_le := show Ax 4 (ln1).toNat = le1 from (ex_le1)) (at0 := at1) (e_at0 := show Gx 10 = at1 from (ex_at1)) (fk := fk1) (e_fk := show Gx 16 = fk1 from (ex_fk1)) (tk0 := tk1) (e_tk0 := show Gx 11 = tk1 from (ex_tk1)) (li := li) (e_li := show Gx 3 = li from ((hFx.1 3 rfl).trans (e_li))) (sy := sy1) (e_sy := show Gx 19 = sy1 from (ex_sy1)) (na := na1) (e_na := show Gx 28 = na1 from (ex_na1)) (vi := vi1) (e_vi := show Gx 29 = vi1 from (ex_vi1))    (p_0 := by omega) (p_1 := by omega) (p_2 := by omega) (p_3 := by omega) (p_4 := by omega)) (fun o V_q hq => ?_)
            obtain ⟨G16, A17, at2_18, fk2_19, ln2_20, sy2_21, na2_22, vi2_23, rfl, rfl, hW24, hF25, hQ26, hQ27, e28, e29, e30, e31, e32, e33, p34, p35, p36, p37, p38, p39, q40⟩ := hq
            have hF41 := Fr_tr hFx hF25 (Fr_sub (by decide)) (Fr_sub (by decide))
            have hP42 := Pf_f hPx hF25 (by decide)
            have hS43 := Fx_tr hSx hQ26 (by omega)
            have hV44 := Fx_tr hVx hQ27 (by omega)
            have sf45 : wD A17 (sy) (sy1) := wD_fx hQ26 (by omega) iv_12
            have sf46 : DS A17 (vi) (vi1) (sy) (sy1) := DS_fx hQ27 (by omega) iv_13
            have ec47 : ecn A17 (G16 31) = ec := (ecn_f (hF25.2 15 rfl) (hF25.1 31 rfl)).trans fx_900
            have bat2_18 : (0 : Int) ≤ at2_18 ∧ at2_18 ≤ 3002 := e28 ▸ hW24.1 10
            have bfk2_19 : (0 : Int) ≤ fk2_19 ∧ fk2_19 ≤ 6 := e29 ▸ hW24.1 16
            have bln2_20 : (0 : Int) ≤ ln2_20 ∧ ln2_20 ≤ 3000 := e30 ▸ hW24.1 9
            have bsy2_21 : (0 : Int) ≤ sy2_21 ∧ sy2_21 ≤ 202 := e31 ▸ hW24.1 19
            have bna2_22 : (0 : Int) ≤ na2_22 ∧ na2_22 ≤ 200 := e32 ▸ hW24.1 28
            have bvi2_23 : (0 : Int) ≤ vi2_23 ∧ vi2_23 ≤ 202 := e33 ▸ hW24.1 29
            refine .inl ⟨rfl, ?_⟩
            rcases q40 with ⟨a48, a49⟩ | ⟨a50, a51, a52, a53⟩
            · have _q : True := trivial
              refine jx_ld (pc_q := 73) (l_q := L15) (st_q := [.int (i32 (dc))]) rfl (jl_iload gL15_4) ?_
              refine jx_ld (pc_q := 74) (l_q := L15) (st_q := [.ref 66, .int (i32 (dc))]) rfl (jl_aloadn gL15_0) ?_
              refine jr_get (pc_q := 77) (i := 19) (v := .int (i32 (sy2_21))) rfl rfl (by decide) (rFv_eq (by decide) (show G16 19 = sy2_21 from (e31))) rfl ?_
              refine jx_add (pc_q := 78) rfl rfl ?_
              refine jx_ld (pc_q := 80) (l_q := L15) (st_q := [.int (i32 (sy1)), .int (i32 ((dc + sy2_21)))]) rfl (jl_iload gL15_5) ?_
              refine jx_sub (pc_q := 81) rfl rfl ?_
              refine jx_ld (pc_q := 83) (l_q := jSto1 L15 4 (.int (i32 (((dc + sy2_21) - sy1))))) (st_q := []) rfl rfl ?_
              obtain ⟨L54, eL54⟩ : ∃ q, q = jSto1 L15 4 (.int (i32 (((dc + sy2_21) - sy1)))) := ⟨_, rfl⟩
              rw [← eL54]
              have gL54_0 : jGet L54 0 = some (.ref 66) := eL54 ▸ jg_ne (by decide) gL15_0 rfl
              have gL54_1 : jGet L54 1 = some (.int (i32 (lv))) := eL54 ▸ jg_ne (by decide) gL15_1 rfl
              have gL54_2 : jGet L54 2 = some (.int (i32 (vi))) := eL54 ▸ jg_ne (by decide) gL15_2 rfl
              have gL54_3 : jGet L54 3 = some (.int (i32 (sy))) := eL54 ▸ jg_ne (by decide) gL15_3 rfl
              have gL54_5 : jGet L54 5 = some (.int (i32 (sy1))) := eL54 ▸ jg_ne (by decide) gL15_5 rfl
              have gL54_4 : jGet L54 4 = some (.int (i32 (((dc + sy2_21) - sy1)))) := eL54 ▸ jg_eq
              refine jx_ld (pc_q := 84) (l_q := L54) (st_q := [.ref 66]) rfl (jl_aloadn gL54_0) ?_
              refine jx_ld (pc_q := 85) (l_q := L54) (st_q := [.int (i32 (lv)), .ref 66]) rfl (jl_iloadn gL54_1) ?_
              have b55 : (-1 : Int) ≤ A 5 (ln2_20).toNat ∧ A 5 (ln2_20).toNat ≤ 15 := hW.2 5 _
              refine jx_vr (pc_q := 88) (as := [.int (i32 (lv))]) (st := []) rfl rfl rfl rfl ⟨rfl, rfl, Nat.le_of_ble_eq_true rfl⟩ rfl rfl (c_needLevel (dd := d) (hd := by omega) (hW := hW24) (lv := lv) (ln := ln2_20) (e_ln := show G16 9 = ln2_20 from (e30)) (li := li) (e_li := show G16 3 = li from ((hF25.1 3 rfl).trans ((hFx.1 3 rfl).trans (e_li)))) (fk := fk2_19) (e_fk := show G16 16 = fk2_19 from (e29)) (ll := A 5 (ln2_20).toNat) (e_ll := show A17 5 (ln2_20).toNat = A 5 (ln2_20).toNat from (congrFun ((hF25.2 5 rfl).trans (hFx.2 5 rfl)) _))  (h_lv := ⟨(Int.le_trans (by decide : (-2147483648 : Int) ≤ -2147483648) h_lv.1), (Int.le_trans h_lv.2 (by decide : (2147483647 : Int) ≤ 2147483647))⟩)  ) (fun o V_q hq => ?_)
              obtain ⟨G56, A57, r58, fk2_59, rfl, rfl, hW60, hF61, b62, e63, q64⟩ := hq
              have hF65 := Fr_tr hF41 hF61 (Fr_sub (by decide)) (Fr_sub (by decide))
              have hP66 := Pf_f hP42 hF61 (by decide)
              have hS67 := Fx_f hS43 hF61 (by decide)
              have hV68 := Fx_f hV44 hF61 (by decide)
              have sf69 : wD A57 (sy) (sy1) := wD_fx (Sg_fr (sb := sy1) hF61 (by decide)) (by omega) sf45
              have sf70 : DS A57 (vi) (vi1) (sy) (sy1) := DS_ext (hF61.2 14 rfl) sf46
              have ec71 : ecn A57 (G56 31) = ec := (ecn_f (hF61.2 15 rfl) (hF61.1 31 rfl)).trans ec47
              have bfk2_59 : (0 : Int) ≤ fk2_59 ∧ fk2_59 ≤ 6 := e63 ▸ hW60.1 16
              refine .inr ⟨_, rfl, ?_⟩
              rcases q64 with ⟨rfl, a72, a73, a74, a75⟩ | ⟨rfl, a76⟩
              · have _q : True := trivial
                exfalso
                omega
              · have _q : True := trivial
                refine jx_if_eq (pc_q := 91) (tg := 95) rfl rfl rfl (by decide) (by decide) (fun h77 => ?_) (fun h77 => ?_)
                · have _q := h77
                  refine jx_go (tg := 27) rfl rfl ?_
                  refine jx_ld (pc_q := 28) (l_q := L54) (st_q := [.ref 66]) rfl (jl_aloadn gL54_0) ?_
                  refine jx_vr (pc_q := 31) (as := []) (st := []) rfl rfl rfl rfl ⟨rfl, rfl, Nat.le_of_ble_eq_true rfl⟩ rfl rfl (c_bad (dd := d) (hd := by omega) (hW := hW60)  (fk := fk2_59) (e_fk := show G56 16 = fk2_59 from (e63))    ) (fun o V_q hq => ?_)
                  obtain ⟨r78, rfl, rfl, b79, q80⟩ := hq
                  refine .inr ⟨_, rfl, ?_⟩
                  rcases q80 with ⟨rfl, a81⟩ | ⟨rfl, a82⟩
                  · have _q : True := trivial
                    refine jx_if_ne (pc_q := 34) (tg := 98) rfl rfl rfl (by decide) (by decide) (fun h83 => ?_) (fun h83 => ?_)
                    · have _q := h83
                      refine jx_ld (pc_q := 99) (l_q := L54) (st_q := [.ref 66]) rfl (jl_aloadn gL54_0) ?_
                      refine jx_vr (pc_q := 102) (as := []) (st := []) rfl rfl rfl rfl ⟨rfl, rfl, Nat.le_of_ble_eq_true rfl⟩ rfl rfl (c_bad (dd := d) (hd := by omega) (hW := hW60)  (fk := fk2_59) (e_fk := show G56 16 = fk2_59 from (e63))    ) (fun o V_q hq => ?_)
                      obtain ⟨r84, rfl, rfl, b85, q86⟩ := hq
                      refine .inr ⟨_, rfl, ?_⟩
                      rcases q86 with ⟨rfl, a87⟩ | ⟨rfl, a88⟩
                      · have _q : True := trivial
                        refine jx_if_eq (pc_q := 105) (tg := 109) rfl rfl rfl (by decide) (by decide) (fun h89 => ?_) (fun h89 => ?_)
                        · have _q := h89
                          exact absurd h89 (by omega)
                        · have _q := h89
                          refine jx_ar (pc_q := 106) (st_q := [.int (i32 (0))]) rfl rfl rfl rfl ?_
                          refine jx_go (tg := 114) rfl rfl ?_
                          refine jx_ld (pc_q := 116) (l_q := jSto1 L54 5 (.int (i32 (0)))) (st_q := []) rfl rfl ?_
                          obtain ⟨L90, eL90⟩ : ∃ q, q = jSto1 L54 5 (.int (i32 (0))) := ⟨_, rfl⟩
                          rw [← eL90]
                          have gL90_0 : jGet L90 0 = some (.ref 66) := eL90 ▸ jg_ne (by decide) gL54_0 rfl
                          have gL90_1 : jGet L90 1 = some (.int (i32 (lv))) := eL90 ▸ jg_ne (by decide) gL54_1 rfl
                          have gL90_2 : jGet L90 2 = some (.int (i32 (vi))) := eL90 ▸ jg_ne (by decide) gL54_2 rfl
                          have gL90_3 : jGet L90 3 = some (.int (i32 (sy))) := eL90 ▸ jg_ne (by decide) gL54_3 rfl
                          have gL90_4 : jGet L90 4 = some (.int (i32 (((dc + sy2_21) - sy1)))) := eL90 ▸ jg_ne (by decide) gL54_4 rfl
                          have gL90_5 : jGet L90 5 = some (.int (i32 (0))) := eL90 ▸ jg_eq
                          refine jx_ld (pc_q := 117) (l_q := L90) (st_q := [.ref 66]) rfl (jl_aloadn gL90_0) ?_
                          refine jx_vr (pc_q := 120) (as := []) (st := []) rfl rfl rfl rfl ⟨rfl, rfl, Nat.le_of_ble_eq_true rfl⟩ rfl rfl (c_bad (dd := d) (hd := by omega) (hW := hW60)  (fk := fk2_59) (e_fk := show G56 16 = fk2_59 from (e63))    ) (fun o V_q hq => ?_)
                          obtain ⟨r91, rfl, rfl, b92, q93⟩ := hq
                          refine .inr ⟨_, rfl, ?_⟩
                          rcases q93 with ⟨rfl, a94⟩ | ⟨rfl, a95⟩
                          · have _q : True := trivial
                            refine jx_if_ne (pc_q := 123) (tg := 140) rfl rfl rfl (by decide) (by decide) (fun h96 => ?_) (fun h96 => ?_)
                            · have _q := h96
                              refine jx_ld (pc_q := 141) (l_q := L90) (st_q := [.ref 66]) rfl (jl_aloadn gL90_0) ?_
                              refine jx_ld (pc_q := 142) (l_q := L90) (st_q := [.int (i32 (vi)), .ref 66]) rfl (jl_iloadn gL90_2) ?_
                              refine jr_put (pc_q := 145) (i := 29) (z := vi) rfl rfl (by decide) rfl rfl rfl rfl rfl rfl ?_
                              have hW97 : Wk (uG G56 29 (vi)) A57 := Wk_g hW60 (show (0 : Int) ≤ vi by omega) (show vi ≤ (202 : Int) by omega)
                              have hF98 := Fr_g (z := vi) (i := 29) hF65 (by decide)
                              have ec99 : ecn A57 ((uG G56 29 (vi)) 31) = ec := ec71
                              refine jx_ld (pc_q := 147) (l_q := L90) (st_q := [.int (i32 (0))]) rfl (jl_iload gL90_5) ?_
                              refine jx_rt (v := some (.int (i32 (0)))) rfl rfl rfl rfl rfl rfl ?_
                              exact ⟨_, _, _, ln2_20, at2_18, fk2_59, nd, sy2_21, na2_22, vi, A 3 (ln2_20).toNat, ec, rfl, rfl, hW97, hF98, hP66, hS67, hV68, by omega, ((hF61.1 9 rfl).trans (e30)), ((hF61.1 10 rfl).trans (e28)), (e63), ((hF61.1 31 rfl).trans ((hF25.1 31 rfl).trans (fx_31))), ((hF61.1 19 rfl).trans (e31)), ((hF61.1 28 rfl).trans (e32)), rfl, (congrFun ((hF61.2 3 rfl).trans ((hF25.2 3 rfl).trans (hFx.2 3 rfl))) _), ec99, by omega, by omega, by omega, by omega, by omega, by omega, by omega, by omega, by omega, by first | exact Or.inl (⟨by omega, by omega⟩)⟩
                            · have _q := h96
                              exact absurd h96 (by omega)
                          · have _q : True := trivial
                            exfalso
                            omega
                      · have _q : True := trivial
                        exfalso
                        omega
                    · have _q := h83
                      exact absurd h83 (by omega)
                  · have _q : True := trivial
                    exfalso
                    omega
                · have _q := h77
                  exact absurd h77 (by omega)
            · have _q : True := trivial
              have b100 : (0 : Int) ≤ A 3 (ln2_20).toNat ∧ A 3 (ln2_20).toNat ≤ 3000 := hW.2 3 _
              have lt101 : ln2_20 < li → le1 < A 3 (ln2_20).toNat := fun hh => LT_nx (LT_ext (((hF25.1 3 rfl).trans (hFx.1 3 rfl))) (((hF25.2 3 rfl).trans (hFx.2 3 rfl))) (((hF25.2 4 rfl).trans (hFx.2 4 rfl))) i_LT) (show G16 3 = li from ((hF25.1 3 rfl).trans ((hFx.1 3 rfl).trans (e_li)))) (show A17 4 (ln1).toNat = le1 from (congrFun (hF25.2 4 rfl) _).trans (ex_le1)) (show A17 3 (ln2_20).toNat = A 3 (ln2_20).toNat from (congrFun ((hF25.2 3 rfl).trans (hFx.2 3 rfl)) _)) (show ln2_20 = ln1 + 1 by omega) (by omega) hh
              refine jx_ld (pc_q := 73) (l_q := L15) (st_q := [.int (i32 (dc))]) rfl (jl_iload gL15_4) ?_
              refine jx_ld (pc_q := 74) (l_q := L15) (st_q := [.ref 66, .int (i32 (dc))]) rfl (jl_aloadn gL15_0) ?_
              refine jr_get (pc_q := 77) (i := 19) (v := .int (i32 (sy2_21))) rfl rfl (by decide) (rFv_eq (by decide) (show G16 19 = sy2_21 from (e31))) rfl ?_
              refine jx_add (pc_q := 78) rfl rfl ?_
              refine jx_ld (pc_q := 80) (l_q := L15) (st_q := [.int (i32 (sy1)), .int (i32 ((dc + sy2_21)))]) rfl (jl_iload gL15_5) ?_
              refine jx_sub (pc_q := 81) rfl rfl ?_
              refine jx_ld (pc_q := 83) (l_q := jSto1 L15 4 (.int (i32 (((dc + sy2_21) - sy1))))) (st_q := []) rfl rfl ?_
              obtain ⟨L102, eL102⟩ : ∃ q, q = jSto1 L15 4 (.int (i32 (((dc + sy2_21) - sy1)))) := ⟨_, rfl⟩
              rw [← eL102]
              have gL102_0 : jGet L102 0 = some (.ref 66) := eL102 ▸ jg_ne (by decide) gL15_0 rfl
              have gL102_1 : jGet L102 1 = some (.int (i32 (lv))) := eL102 ▸ jg_ne (by decide) gL15_1 rfl
              have gL102_2 : jGet L102 2 = some (.int (i32 (vi))) := eL102 ▸ jg_ne (by decide) gL15_2 rfl
              have gL102_3 : jGet L102 3 = some (.int (i32 (sy))) := eL102 ▸ jg_ne (by decide) gL15_3 rfl
              have gL102_5 : jGet L102 5 = some (.int (i32 (sy1))) := eL102 ▸ jg_ne (by decide) gL15_5 rfl
              have gL102_4 : jGet L102 4 = some (.int (i32 (((dc + sy2_21) - sy1)))) := eL102 ▸ jg_eq
              refine jx_ld (pc_q := 84) (l_q := L102) (st_q := [.ref 66]) rfl (jl_aloadn gL102_0) ?_
              refine jx_ld (pc_q := 85) (l_q := L102) (st_q := [.int (i32 (lv)), .ref 66]) rfl (jl_iloadn gL102_1) ?_
              have b103 : (-1 : Int) ≤ A 5 (ln2_20).toNat ∧ A 5 (ln2_20).toNat ≤ 15 := hW.2 5 _
              refine jx_vr (pc_q := 88) (as := [.int (i32 (lv))]) (st := []) rfl rfl rfl rfl ⟨rfl, rfl, Nat.le_of_ble_eq_true rfl⟩ rfl rfl (c_needLevel (dd := d) (hd := by omega) (hW := hW24) (lv := lv) (ln := ln2_20) (e_ln := show G16 9 = ln2_20 from (e30)) (li := li) (e_li := show G16 3 = li from ((hF25.1 3 rfl).trans ((hFx.1 3 rfl).trans (e_li)))) (fk := fk2_19) (e_fk := show G16 16 = fk2_19 from (e29)) (ll := A 5 (ln2_20).toNat) (e_ll := show A17 5 (ln2_20).toNat = A 5 (ln2_20).toNat from (congrFun ((hF25.2 5 rfl).trans (hFx.2 5 rfl)) _))  (h_lv := ⟨(Int.le_trans (by decide : (-2147483648 : Int) ≤ -2147483648) h_lv.1), (Int.le_trans h_lv.2 (by decide : (2147483647 : Int) ≤ 2147483647))⟩)  ) (fun o V_q hq => ?_)
              obtain ⟨G104, A105, r106, fk2_107, rfl, rfl, hW108, hF109, b110, e111, q112⟩ := hq
              have hF113 := Fr_tr hF41 hF109 (Fr_sub (by decide)) (Fr_sub (by decide))
              have hP114 := Pf_f hP42 hF109 (by decide)
              have hS115 := Fx_f hS43 hF109 (by decide)
              have hV116 := Fx_f hV44 hF109 (by decide)
              have sf117 : wD A105 (sy) (sy1) := wD_fx (Sg_fr (sb := sy1) hF109 (by decide)) (by omega) sf45
              have sf118 : DS A105 (vi) (vi1) (sy) (sy1) := DS_ext (hF109.2 14 rfl) sf46
              have sf119 : wD A105 (sy1) (sy2_21) := wD_fx (Sg_fr (sb := sy2_21) hF109 (by decide)) (by omega) a52
              have sf120 : DS A105 (vi1) (vi2_23) (sy1) (sy2_21) := DS_ext (hF109.2 14 rfl) a53
              have ec121 : ecn A105 (G104 31) = ec := (ecn_f (hF109.2 15 rfl) (hF109.1 31 rfl)).trans ec47
              have bfk2_107 : (0 : Int) ≤ fk2_107 ∧ fk2_107 ≤ 6 := e111 ▸ hW108.1 16
              refine .inr ⟨_, rfl, ?_⟩
              rcases q112 with ⟨rfl, a122, a123, a124, a125⟩ | ⟨rfl, a126⟩
              · have _q : True := trivial
                have b127 : (0 : Int) ≤ A 4 (ln2_20).toNat ∧ A 4 (ln2_20).toNat ≤ 3000 := hW.2 4 _
                have lt128 : A 3 (ln2_20).toNat < A 4 (ln2_20).toNat := LT_at (LT_ext (((hF109.1 3 rfl).trans ((hF25.1 3 rfl).trans (hFx.1 3 rfl)))) (((hF109.2 3 rfl).trans ((hF25.2 3 rfl).trans (hFx.2 3 rfl)))) (((hF109.2 4 rfl).trans ((hF25.2 4 rfl).trans (hFx.2 4 rfl)))) i_LT) (show G104 3 = li from ((hF109.1 3 rfl).trans ((hF25.1 3 rfl).trans ((hFx.1 3 rfl).trans (e_li))))) (show A105 3 (ln2_20).toNat = A 3 (ln2_20).toNat from (congrFun ((hF109.2 3 rfl).trans ((hF25.2 3 rfl).trans (hFx.2 3 rfl))) _)) (show A105 4 (ln2_20).toNat = A 4 (ln2_20).toNat from (congrFun ((hF109.2 4 rfl).trans ((hF25.2 4 rfl).trans (hFx.2 4 rfl))) _)) (by omega) (by omega)
                refine jx_if_eq (pc_q := 91) (tg := 95) rfl rfl rfl (by decide) (by decide) (fun h129 => ?_) (fun h129 => ?_)
                · have _q := h129
                  exact absurd h129 (by omega)
                · have _q := h129
                  refine jx_ld (pc_q := 92) (l_q := L102) (st_q := [.ref 66]) rfl (jl_aloadn gL102_0) ?_
                  refine jx_vr (pc_q := 95) (as := []) (st := []) rfl rfl rfl rfl ⟨rfl, rfl, Nat.le_of_ble_eq_true rfl⟩ rfl rfl (c_openLine (dd := d) (hd := by omega) (hW := hW108)  (ln := ln2_20) (e_ln := show G104 9 = ln2_20 from ((hF109.1 9 rfl).trans (e30))) (le := A 4 (ln2_20).toNat) (e_le := show A105 4 (ln2_20).toNat = A 4 (ln2_20).toNat from (congrFun ((hF109.2 4 rfl).trans ((hF25.2 4 rfl).trans (hFx.2 4 rfl))) _)) (lf := A 3 (ln2_20).toNat) (e_lf := show A105 3 (ln2_20).toNat = A 3 (ln2_20).toNat from (congrFun ((hF109.2 3 rfl).trans ((hF25.2 3 rfl).trans (hFx.2 3 rfl))) _))    (p_0 := by omega)) (fun o V_q hq => ?_)
                  obtain ⟨G130, A131, at2_132, tk2_133, op2_134, rfl, rfl, hW135, hF136, e137, e138, e139, p140, p141, p142, p143, -⟩ := hq
                  have hF145 := Fr_tr hF113 hF136 (Fr_sub (by decide)) (Fr_sub (by decide))
                  have hP146 := Pf_f hP114 hF136 (by decide)
                  have hS147 := Fx_f hS115 hF136 (by decide)
                  have hV148 := Fx_f hV116 hF136 (by decide)
                  have sf149 : wD A131 (sy) (sy1) := wD_fx (Sg_fr (sb := sy1) hF136 (by decide)) (by omega) sf117
                  have sf150 : DS A131 (vi) (vi1) (sy) (sy1) := DS_ext (hF136.2 14 rfl) sf118
                  have sf151 : wD A131 (sy1) (sy2_21) := wD_fx (Sg_fr (sb := sy2_21) hF136 (by decide)) (by omega) sf119
                  have sf152 : DS A131 (vi1) (vi2_23) (sy1) (sy2_21) := DS_ext (hF136.2 14 rfl) sf120
                  have ec153 : ecn A131 (G130 31) = ec := (ecn_f (hF136.2 15 rfl) (hF136.1 31 rfl)).trans ec121
                  have bat2_132 : (0 : Int) ≤ at2_132 ∧ at2_132 ≤ 3002 := e137 ▸ hW135.1 10
                  have ztk2_133 := tz_b tk2_133
                  have btk2_133 : (0 : Int) ≤ tk2_133 ∧ tk2_133 ≤ 5 := e138 ▸ hW135.1 11
                  have bop2_134 : (-2147483648 : Int) ≤ op2_134 ∧ op2_134 ≤ 2147483647 := e139 ▸ hW135.1 15
                  refine .inl ⟨rfl, ?_⟩
                  have pz154 : (A 3 (ln2_20).toNat) + tz tk2_133 ≤ at2_132 := by omega
                  refine jx_go (tg := 27) rfl rfl ?_
                  have z155 := tz_f (tk2_133)
                  exact ih27 _ (by omega) L102 G130 A131 (((dc + sy2_21) - sy1)) (ln2_20) (at2_132) (tk2_133) (fk2_107) (op2_134) (sy2_21) (na2_22) (vi2_23) (A 4 (ln2_20).toNat) rfl gL102_0 gL102_1 gL102_2 gL102_3 gL102_4 hW135 hF145 hP146 hS147 hV148 (((hF136.1 9 rfl).trans ((hF109.1 9 rfl).trans (e30)))) ((e137)) ((e138)) (((hF136.1 16 rfl).trans (e111))) ((e139)) (((hF136.1 19 rfl).trans ((hF109.1 19 rfl).trans (e31)))) (((hF136.1 28 rfl).trans ((hF109.1 28 rfl).trans (e32)))) (((hF136.1 29 rfl).trans ((hF109.1 29 rfl).trans (e33)))) ((congrFun ((hF136.2 4 rfl).trans ((hF109.2 4 rfl).trans ((hF25.2 4 rfl).trans (hFx.2 4 rfl)))) _)) (((hF136.1 31 rfl).trans ((hF109.1 31 rfl).trans ((hF25.1 31 rfl).trans (fx_31))))) (ec153) (by omega) (by omega) (by omega) (by omega) (by omega) (by omega) (by omega) (by omega) (by omega) (by omega) (by omega) (by omega) (by omega) ((wD_tr sf149 sf151)) ((DS_app sf150 sf152 (by omega) (by omega)))
              · have _q : True := trivial
                refine jx_if_eq (pc_q := 91) (tg := 95) rfl rfl rfl (by decide) (by decide) (fun h156 => ?_) (fun h156 => ?_)
                · have _q := h156
                  refine jx_go (tg := 27) rfl rfl ?_
                  refine jx_ld (pc_q := 28) (l_q := L102) (st_q := [.ref 66]) rfl (jl_aloadn gL102_0) ?_
                  refine jx_vr (pc_q := 31) (as := []) (st := []) rfl rfl rfl rfl ⟨rfl, rfl, Nat.le_of_ble_eq_true rfl⟩ rfl rfl (c_bad (dd := d) (hd := by omega) (hW := hW108)  (fk := fk2_107) (e_fk := show G104 16 = fk2_107 from (e111))    ) (fun o V_q hq => ?_)
                  obtain ⟨r157, rfl, rfl, b158, q159⟩ := hq
                  refine .inr ⟨_, rfl, ?_⟩
                  rcases q159 with ⟨rfl, a160⟩ | ⟨rfl, a161⟩
                  · have _q : True := trivial
                    refine jx_if_ne (pc_q := 34) (tg := 98) rfl rfl rfl (by decide) (by decide) (fun h162 => ?_) (fun h162 => ?_)
                    · have _q := h162
                      refine jx_ld (pc_q := 99) (l_q := L102) (st_q := [.ref 66]) rfl (jl_aloadn gL102_0) ?_
                      refine jx_vr (pc_q := 102) (as := []) (st := []) rfl rfl rfl rfl ⟨rfl, rfl, Nat.le_of_ble_eq_true rfl⟩ rfl rfl (c_bad (dd := d) (hd := by omega) (hW := hW108)  (fk := fk2_107) (e_fk := show G104 16 = fk2_107 from (e111))    ) (fun o V_q hq => ?_)
                      obtain ⟨r163, rfl, rfl, b164, q165⟩ := hq
                      refine .inr ⟨_, rfl, ?_⟩
                      rcases q165 with ⟨rfl, a166⟩ | ⟨rfl, a167⟩
                      · have _q : True := trivial
                        refine jx_if_eq (pc_q := 105) (tg := 109) rfl rfl rfl (by decide) (by decide) (fun h168 => ?_) (fun h168 => ?_)
                        · have _q := h168
                          exact absurd h168 (by omega)
                        · have _q := h168
                          refine jx_ar (pc_q := 106) (st_q := [.int (i32 (0))]) rfl rfl rfl rfl ?_
                          refine jx_go (tg := 114) rfl rfl ?_
                          refine jx_ld (pc_q := 116) (l_q := jSto1 L102 5 (.int (i32 (0)))) (st_q := []) rfl rfl ?_
                          obtain ⟨L169, eL169⟩ : ∃ q, q = jSto1 L102 5 (.int (i32 (0))) := ⟨_, rfl⟩
                          rw [← eL169]
                          have gL169_0 : jGet L169 0 = some (.ref 66) := eL169 ▸ jg_ne (by decide) gL102_0 rfl
                          have gL169_1 : jGet L169 1 = some (.int (i32 (lv))) := eL169 ▸ jg_ne (by decide) gL102_1 rfl
                          have gL169_2 : jGet L169 2 = some (.int (i32 (vi))) := eL169 ▸ jg_ne (by decide) gL102_2 rfl
                          have gL169_3 : jGet L169 3 = some (.int (i32 (sy))) := eL169 ▸ jg_ne (by decide) gL102_3 rfl
                          have gL169_4 : jGet L169 4 = some (.int (i32 (((dc + sy2_21) - sy1)))) := eL169 ▸ jg_ne (by decide) gL102_4 rfl
                          have gL169_5 : jGet L169 5 = some (.int (i32 (0))) := eL169 ▸ jg_eq
                          refine jx_ld (pc_q := 117) (l_q := L169) (st_q := [.ref 66]) rfl (jl_aloadn gL169_0) ?_
                          refine jx_vr (pc_q := 120) (as := []) (st := []) rfl rfl rfl rfl ⟨rfl, rfl, Nat.le_of_ble_eq_true rfl⟩ rfl rfl (c_bad (dd := d) (hd := by omega) (hW := hW108)  (fk := fk2_107) (e_fk := show G104 16 = fk2_107 from (e111))    ) (fun o V_q hq => ?_)
                          obtain ⟨r170, rfl, rfl, b171, q172⟩ := hq
                          refine .inr ⟨_, rfl, ?_⟩
                          rcases q172 with ⟨rfl, a173⟩ | ⟨rfl, a174⟩
                          · have _q : True := trivial
                            refine jx_if_ne (pc_q := 123) (tg := 140) rfl rfl rfl (by decide) (by decide) (fun h175 => ?_) (fun h175 => ?_)
                            · have _q := h175
                              refine jx_ld (pc_q := 141) (l_q := L169) (st_q := [.ref 66]) rfl (jl_aloadn gL169_0) ?_
                              refine jx_ld (pc_q := 142) (l_q := L169) (st_q := [.int (i32 (vi)), .ref 66]) rfl (jl_iloadn gL169_2) ?_
                              refine jr_put (pc_q := 145) (i := 29) (z := vi) rfl rfl (by decide) rfl rfl rfl rfl rfl rfl ?_
                              have hW176 : Wk (uG G104 29 (vi)) A105 := Wk_g hW108 (show (0 : Int) ≤ vi by omega) (show vi ≤ (202 : Int) by omega)
                              have hF177 := Fr_g (z := vi) (i := 29) hF113 (by decide)
                              have ec178 : ecn A105 ((uG G104 29 (vi)) 31) = ec := ec121
                              refine jx_ld (pc_q := 147) (l_q := L169) (st_q := [.int (i32 (0))]) rfl (jl_iload gL169_5) ?_
                              refine jx_rt (v := some (.int (i32 (0)))) rfl rfl rfl rfl rfl rfl ?_
                              exact ⟨_, _, _, ln2_20, at2_18, fk2_107, nd, sy2_21, na2_22, vi, A 3 (ln2_20).toNat, ec, rfl, rfl, hW176, hF177, hP114, hS115, hV116, by omega, ((hF109.1 9 rfl).trans (e30)), ((hF109.1 10 rfl).trans (e28)), (e111), ((hF109.1 31 rfl).trans ((hF25.1 31 rfl).trans (fx_31))), ((hF109.1 19 rfl).trans (e31)), ((hF109.1 28 rfl).trans (e32)), rfl, (congrFun ((hF109.2 3 rfl).trans ((hF25.2 3 rfl).trans (hFx.2 3 rfl))) _), ec178, by omega, by omega, by omega, by omega, by omega, by omega, by omega, by omega, by omega, by first | exact Or.inl (⟨by omega, by omega⟩)⟩
                            · have _q := h175
                              exact absurd h175 (by omega)
                          · have _q : True := trivial
                            exfalso
                            omega
                      · have _q : True := trivial
                        exfalso
                        omega
                    · have _q := h162
                      exact absurd h162 (by omega)
                  · have _q : True := trivial
                    exfalso
                    omega
                · have _q := h156
                  exact absurd h156 (by omega)
          · have _q := h14
            exact absurd h14 (by omega)
        · have _q : True := trivial
          refine jx_if_ne (pc_q := 43) (tg := 61) rfl rfl rfl (by decide) (by decide) (fun h179 => ?_) (fun h179 => ?_)
          · have _q := h179
            exact absurd h179 (by omega)
          · have _q := h179
            refine jx_ld (pc_q := 44) (l_q := L) (st_q := [.ref 66]) rfl (jl_aloadn gL_0) ?_
            refine jx_ar (pc_q := 46) (st_q := [.int (i32 (10)), .ref 66]) rfl rfl rfl rfl ?_
            refine jx_vr (pc_q := 49) (as := [.int (i32 (10))]) (st := []) rfl rfl rfl rfl ⟨rfl, rfl, Nat.le_of_ble_eq_true rfl⟩ rfl rfl (c_isKey (dd := d) (hd := by omega) (hW := hWx) (k := 10) (tk := tk1) (e_tk := show Gx 11 = tk1 from (ex_tk1)) (tn := Gx 13) (e_tn := show Gx 13 = Gx 13 from rfl)  (h_k := ⟨(by decide), (by decide)⟩)  ) (fun o V_q hq => ?_)
            obtain ⟨r180, rfl, rfl, b181, q182⟩ := hq
            refine .inr ⟨_, rfl, ?_⟩
            rcases q182 with ⟨rfl, a183, a184, a185⟩ | rfl
            · have _q : True := trivial
              refine jx_if_ne (pc_q := 52) (tg := 61) rfl rfl rfl (by decide) (by decide) (fun h186 => ?_) (fun h186 => ?_)
              · have _q := h186
                refine jx_ld (pc_q := 62) (l_q := L) (st_q := [.ref 66]) rfl (jl_aloadn gL_0) ?_
                refine jr_get (pc_q := 65) (i := 19) (v := .int (i32 (sy1))) rfl rfl (by decide) (rFv_eq (by decide) (show Gx 19 = sy1 from (ex_sy1))) rfl ?_
                refine jx_ld (pc_q := 67) (l_q := jSto1 L 5 (.int (i32 (sy1)))) (st_q := []) rfl rfl ?_
                obtain ⟨L187, eL187⟩ : ∃ q, q = jSto1 L 5 (.int (i32 (sy1))) := ⟨_, rfl⟩
                rw [← eL187]
                have gL187_0 : jGet L187 0 = some (.ref 66) := eL187 ▸ jg_ne (by decide) gL_0 rfl
                have gL187_1 : jGet L187 1 = some (.int (i32 (lv))) := eL187 ▸ jg_ne (by decide) gL_1 rfl
                have gL187_2 : jGet L187 2 = some (.int (i32 (vi))) := eL187 ▸ jg_ne (by decide) gL_2 rfl
                have gL187_3 : jGet L187 3 = some (.int (i32 (sy))) := eL187 ▸ jg_ne (by decide) gL_3 rfl
                have gL187_4 : jGet L187 4 = some (.int (i32 (dc))) := eL187 ▸ jg_ne (by decide) gL_4 rfl
                have gL187_5 : jGet L187 5 = some (.int (i32 (sy1))) := eL187 ▸ jg_eq
                refine jx_ld (pc_q := 68) (l_q := L187) (st_q := [.ref 66]) rfl (jl_aloadn gL187_0) ?_
                refine jx_vr (pc_q := 71) (as := []) (st := []) rfl rfl rfl rfl ⟨rfl, rfl, Nat.le_of_ble_eq_true rfl⟩ rfl rfl (c_readDeclaration (dd := d) (hd := by omega) (hW := hWx)  (ln := ln1) (e_ln := show Gx 9 = ln1 from (ex_ln1)) (le := le1) (e_le := show Ax 4 (ln1).toNat = le1 from (ex_le1)) (at0 := at1) (e_at0 := show Gx 10 = at1 from (ex_at1)) (fk := fk1) (e_fk := show Gx 16 = fk1 from (ex_fk1)) (tk0 := tk1) (e_tk0 := show Gx 11 = tk1 from (ex_tk1)) (li := li) (e_li := show Gx 3 = li from ((hFx.1 3 rfl).trans (e_li))) (sy := sy1) (e_sy := show Gx 19 = sy1 from (ex_sy1)) (na := na1) (e_na := show Gx 28 = na1 from (ex_na1)) (vi := vi1) (e_vi := show Gx 29 = vi1 from (ex_vi1))    (p_0 := by omega) (p_1 := by omega) (p_2 := by omega) (p_3 := by omega) (p_4 := by omega)) (fun o V_q hq => ?_)
                obtain ⟨G188, A189, at2_190, fk2_191, ln2_192, sy2_193, na2_194, vi2_195, rfl, rfl, hW196, hF197, hQ198, hQ199, e200, e201, e202, e203, e204, e205, p206, p207, p208, p209, p210, p211, q212⟩ := hq
                have hF213 := Fr_tr hFx hF197 (Fr_sub (by decide)) (Fr_sub (by decide))
                have hP214 := Pf_f hPx hF197 (by decide)
                have hS215 := Fx_tr hSx hQ198 (by omega)
                have hV216 := Fx_tr hVx hQ199 (by omega)
                have sf217 : wD A189 (sy) (sy1) := wD_fx hQ198 (by omega) iv_12
                have sf218 : DS A189 (vi) (vi1) (sy) (sy1) := DS_fx hQ199 (by omega) iv_13
                have ec219 : ecn A189 (G188 31) = ec := (ecn_f (hF197.2 15 rfl) (hF197.1 31 rfl)).trans fx_900
                have bat2_190 : (0 : Int) ≤ at2_190 ∧ at2_190 ≤ 3002 := e200 ▸ hW196.1 10
                have bfk2_191 : (0 : Int) ≤ fk2_191 ∧ fk2_191 ≤ 6 := e201 ▸ hW196.1 16
                have bln2_192 : (0 : Int) ≤ ln2_192 ∧ ln2_192 ≤ 3000 := e202 ▸ hW196.1 9
                have bsy2_193 : (0 : Int) ≤ sy2_193 ∧ sy2_193 ≤ 202 := e203 ▸ hW196.1 19
                have bna2_194 : (0 : Int) ≤ na2_194 ∧ na2_194 ≤ 200 := e204 ▸ hW196.1 28
                have bvi2_195 : (0 : Int) ≤ vi2_195 ∧ vi2_195 ≤ 202 := e205 ▸ hW196.1 29
                refine .inl ⟨rfl, ?_⟩
                rcases q212 with ⟨a220, a221⟩ | ⟨a222, a223, a224, a225⟩
                · have _q : True := trivial
                  refine jx_ld (pc_q := 73) (l_q := L187) (st_q := [.int (i32 (dc))]) rfl (jl_iload gL187_4) ?_
                  refine jx_ld (pc_q := 74) (l_q := L187) (st_q := [.ref 66, .int (i32 (dc))]) rfl (jl_aloadn gL187_0) ?_
                  refine jr_get (pc_q := 77) (i := 19) (v := .int (i32 (sy2_193))) rfl rfl (by decide) (rFv_eq (by decide) (show G188 19 = sy2_193 from (e203))) rfl ?_
                  refine jx_add (pc_q := 78) rfl rfl ?_
                  refine jx_ld (pc_q := 80) (l_q := L187) (st_q := [.int (i32 (sy1)), .int (i32 ((dc + sy2_193)))]) rfl (jl_iload gL187_5) ?_
                  refine jx_sub (pc_q := 81) rfl rfl ?_
                  refine jx_ld (pc_q := 83) (l_q := jSto1 L187 4 (.int (i32 (((dc + sy2_193) - sy1))))) (st_q := []) rfl rfl ?_
                  obtain ⟨L226, eL226⟩ : ∃ q, q = jSto1 L187 4 (.int (i32 (((dc + sy2_193) - sy1)))) := ⟨_, rfl⟩
                  rw [← eL226]
                  have gL226_0 : jGet L226 0 = some (.ref 66) := eL226 ▸ jg_ne (by decide) gL187_0 rfl
                  have gL226_1 : jGet L226 1 = some (.int (i32 (lv))) := eL226 ▸ jg_ne (by decide) gL187_1 rfl
                  have gL226_2 : jGet L226 2 = some (.int (i32 (vi))) := eL226 ▸ jg_ne (by decide) gL187_2 rfl
                  have gL226_3 : jGet L226 3 = some (.int (i32 (sy))) := eL226 ▸ jg_ne (by decide) gL187_3 rfl
                  have gL226_5 : jGet L226 5 = some (.int (i32 (sy1))) := eL226 ▸ jg_ne (by decide) gL187_5 rfl
                  have gL226_4 : jGet L226 4 = some (.int (i32 (((dc + sy2_193) - sy1)))) := eL226 ▸ jg_eq
                  refine jx_ld (pc_q := 84) (l_q := L226) (st_q := [.ref 66]) rfl (jl_aloadn gL226_0) ?_
                  refine jx_ld (pc_q := 85) (l_q := L226) (st_q := [.int (i32 (lv)), .ref 66]) rfl (jl_iloadn gL226_1) ?_
                  have b227 : (-1 : Int) ≤ A 5 (ln2_192).toNat ∧ A 5 (ln2_192).toNat ≤ 15 := hW.2 5 _
                  refine jx_vr (pc_q := 88) (as := [.int (i32 (lv))]) (st := []) rfl rfl rfl rfl ⟨rfl, rfl, Nat.le_of_ble_eq_true rfl⟩ rfl rfl (c_needLevel (dd := d) (hd := by omega) (hW := hW196) (lv := lv) (ln := ln2_192) (e_ln := show G188 9 = ln2_192 from (e202)) (li := li) (e_li := show G188 3 = li from ((hF197.1 3 rfl).trans ((hFx.1 3 rfl).trans (e_li)))) (fk := fk2_191) (e_fk := show G188 16 = fk2_191 from (e201)) (ll := A 5 (ln2_192).toNat) (e_ll := show A189 5 (ln2_192).toNat = A 5 (ln2_192).toNat from (congrFun ((hF197.2 5 rfl).trans (hFx.2 5 rfl)) _))  (h_lv := ⟨(Int.le_trans (by decide : (-2147483648 : Int) ≤ -2147483648) h_lv.1), (Int.le_trans h_lv.2 (by decide : (2147483647 : Int) ≤ 2147483647))⟩)  ) (fun o V_q hq => ?_)
                  obtain ⟨G228, A229, r230, fk2_231, rfl, rfl, hW232, hF233, b234, e235, q236⟩ := hq
                  have hF237 := Fr_tr hF213 hF233 (Fr_sub (by decide)) (Fr_sub (by decide))
                  have hP238 := Pf_f hP214 hF233 (by decide)
                  have hS239 := Fx_f hS215 hF233 (by decide)
                  have hV240 := Fx_f hV216 hF233 (by decide)
                  have sf241 : wD A229 (sy) (sy1) := wD_fx (Sg_fr (sb := sy1) hF233 (by decide)) (by omega) sf217
                  have sf242 : DS A229 (vi) (vi1) (sy) (sy1) := DS_ext (hF233.2 14 rfl) sf218
                  have ec243 : ecn A229 (G228 31) = ec := (ecn_f (hF233.2 15 rfl) (hF233.1 31 rfl)).trans ec219
                  have bfk2_231 : (0 : Int) ≤ fk2_231 ∧ fk2_231 ≤ 6 := e235 ▸ hW232.1 16
                  refine .inr ⟨_, rfl, ?_⟩
                  rcases q236 with ⟨rfl, a244, a245, a246, a247⟩ | ⟨rfl, a248⟩
                  · have _q : True := trivial
                    exfalso
                    omega
                  · have _q : True := trivial
                    refine jx_if_eq (pc_q := 91) (tg := 95) rfl rfl rfl (by decide) (by decide) (fun h249 => ?_) (fun h249 => ?_)
                    · have _q := h249
                      refine jx_go (tg := 27) rfl rfl ?_
                      refine jx_ld (pc_q := 28) (l_q := L226) (st_q := [.ref 66]) rfl (jl_aloadn gL226_0) ?_
                      refine jx_vr (pc_q := 31) (as := []) (st := []) rfl rfl rfl rfl ⟨rfl, rfl, Nat.le_of_ble_eq_true rfl⟩ rfl rfl (c_bad (dd := d) (hd := by omega) (hW := hW232)  (fk := fk2_231) (e_fk := show G228 16 = fk2_231 from (e235))    ) (fun o V_q hq => ?_)
                      obtain ⟨r250, rfl, rfl, b251, q252⟩ := hq
                      refine .inr ⟨_, rfl, ?_⟩
                      rcases q252 with ⟨rfl, a253⟩ | ⟨rfl, a254⟩
                      · have _q : True := trivial
                        refine jx_if_ne (pc_q := 34) (tg := 98) rfl rfl rfl (by decide) (by decide) (fun h255 => ?_) (fun h255 => ?_)
                        · have _q := h255
                          refine jx_ld (pc_q := 99) (l_q := L226) (st_q := [.ref 66]) rfl (jl_aloadn gL226_0) ?_
                          refine jx_vr (pc_q := 102) (as := []) (st := []) rfl rfl rfl rfl ⟨rfl, rfl, Nat.le_of_ble_eq_true rfl⟩ rfl rfl (c_bad (dd := d) (hd := by omega) (hW := hW232)  (fk := fk2_231) (e_fk := show G228 16 = fk2_231 from (e235))    ) (fun o V_q hq => ?_)
                          obtain ⟨r256, rfl, rfl, b257, q258⟩ := hq
                          refine .inr ⟨_, rfl, ?_⟩
                          rcases q258 with ⟨rfl, a259⟩ | ⟨rfl, a260⟩
                          · have _q : True := trivial
                            refine jx_if_eq (pc_q := 105) (tg := 109) rfl rfl rfl (by decide) (by decide) (fun h261 => ?_) (fun h261 => ?_)
                            · have _q := h261
                              exact absurd h261 (by omega)
                            · have _q := h261
                              refine jx_ar (pc_q := 106) (st_q := [.int (i32 (0))]) rfl rfl rfl rfl ?_
                              refine jx_go (tg := 114) rfl rfl ?_
                              refine jx_ld (pc_q := 116) (l_q := jSto1 L226 5 (.int (i32 (0)))) (st_q := []) rfl rfl ?_
                              obtain ⟨L262, eL262⟩ : ∃ q, q = jSto1 L226 5 (.int (i32 (0))) := ⟨_, rfl⟩
                              rw [← eL262]
                              have gL262_0 : jGet L262 0 = some (.ref 66) := eL262 ▸ jg_ne (by decide) gL226_0 rfl
                              have gL262_1 : jGet L262 1 = some (.int (i32 (lv))) := eL262 ▸ jg_ne (by decide) gL226_1 rfl
                              have gL262_2 : jGet L262 2 = some (.int (i32 (vi))) := eL262 ▸ jg_ne (by decide) gL226_2 rfl
                              have gL262_3 : jGet L262 3 = some (.int (i32 (sy))) := eL262 ▸ jg_ne (by decide) gL226_3 rfl
                              have gL262_4 : jGet L262 4 = some (.int (i32 (((dc + sy2_193) - sy1)))) := eL262 ▸ jg_ne (by decide) gL226_4 rfl
                              have gL262_5 : jGet L262 5 = some (.int (i32 (0))) := eL262 ▸ jg_eq
                              refine jx_ld (pc_q := 117) (l_q := L262) (st_q := [.ref 66]) rfl (jl_aloadn gL262_0) ?_
                              refine jx_vr (pc_q := 120) (as := []) (st := []) rfl rfl rfl rfl ⟨rfl, rfl, Nat.le_of_ble_eq_true rfl⟩ rfl rfl (c_bad (dd := d) (hd := by omega) (hW := hW232)  (fk := fk2_231) (e_fk := show G228 16 = fk2_231 from (e235))    ) (fun o V_q hq => ?_)
                              obtain ⟨r263, rfl, rfl, b264, q265⟩ := hq
                              refine .inr ⟨_, rfl, ?_⟩
                              rcases q265 with ⟨rfl, a266⟩ | ⟨rfl, a267⟩
                              · have _q : True := trivial
                                refine jx_if_ne (pc_q := 123) (tg := 140) rfl rfl rfl (by decide) (by decide) (fun h268 => ?_) (fun h268 => ?_)
                                · have _q := h268
                                  refine jx_ld (pc_q := 141) (l_q := L262) (st_q := [.ref 66]) rfl (jl_aloadn gL262_0) ?_
                                  refine jx_ld (pc_q := 142) (l_q := L262) (st_q := [.int (i32 (vi)), .ref 66]) rfl (jl_iloadn gL262_2) ?_
                                  refine jr_put (pc_q := 145) (i := 29) (z := vi) rfl rfl (by decide) rfl rfl rfl rfl rfl rfl ?_
                                  have hW269 : Wk (uG G228 29 (vi)) A229 := Wk_g hW232 (show (0 : Int) ≤ vi by omega) (show vi ≤ (202 : Int) by omega)
                                  have hF270 := Fr_g (z := vi) (i := 29) hF237 (by decide)
                                  have ec271 : ecn A229 ((uG G228 29 (vi)) 31) = ec := ec243
                                  refine jx_ld (pc_q := 147) (l_q := L262) (st_q := [.int (i32 (0))]) rfl (jl_iload gL262_5) ?_
                                  refine jx_rt (v := some (.int (i32 (0)))) rfl rfl rfl rfl rfl rfl ?_
                                  exact ⟨_, _, _, ln2_192, at2_190, fk2_231, nd, sy2_193, na2_194, vi, A 3 (ln2_192).toNat, ec, rfl, rfl, hW269, hF270, hP238, hS239, hV240, by omega, ((hF233.1 9 rfl).trans (e202)), ((hF233.1 10 rfl).trans (e200)), (e235), ((hF233.1 31 rfl).trans ((hF197.1 31 rfl).trans (fx_31))), ((hF233.1 19 rfl).trans (e203)), ((hF233.1 28 rfl).trans (e204)), rfl, (congrFun ((hF233.2 3 rfl).trans ((hF197.2 3 rfl).trans (hFx.2 3 rfl))) _), ec271, by omega, by omega, by omega, by omega, by omega, by omega, by omega, by omega, by omega, by first | exact Or.inl (⟨by omega, by omega⟩)⟩
                                · have _q := h268
                                  exact absurd h268 (by omega)
                              · have _q : True := trivial
                                exfalso
                                omega
                          · have _q : True := trivial
                            exfalso
                            omega
                        · have _q := h255
                          exact absurd h255 (by omega)
                      · have _q : True := trivial
                        exfalso
                        omega
                    · have _q := h249
                      exact absurd h249 (by omega)
                · have _q : True := trivial
                  have b272 : (0 : Int) ≤ A 3 (ln2_192).toNat ∧ A 3 (ln2_192).toNat ≤ 3000 := hW.2 3 _
                  have lt273 : ln2_192 < li → le1 < A 3 (ln2_192).toNat := fun hh => LT_nx (LT_ext (((hF197.1 3 rfl).trans (hFx.1 3 rfl))) (((hF197.2 3 rfl).trans (hFx.2 3 rfl))) (((hF197.2 4 rfl).trans (hFx.2 4 rfl))) i_LT) (show G188 3 = li from ((hF197.1 3 rfl).trans ((hFx.1 3 rfl).trans (e_li)))) (show A189 4 (ln1).toNat = le1 from (congrFun (hF197.2 4 rfl) _).trans (ex_le1)) (show A189 3 (ln2_192).toNat = A 3 (ln2_192).toNat from (congrFun ((hF197.2 3 rfl).trans (hFx.2 3 rfl)) _)) (show ln2_192 = ln1 + 1 by omega) (by omega) hh
                  refine jx_ld (pc_q := 73) (l_q := L187) (st_q := [.int (i32 (dc))]) rfl (jl_iload gL187_4) ?_
                  refine jx_ld (pc_q := 74) (l_q := L187) (st_q := [.ref 66, .int (i32 (dc))]) rfl (jl_aloadn gL187_0) ?_
                  refine jr_get (pc_q := 77) (i := 19) (v := .int (i32 (sy2_193))) rfl rfl (by decide) (rFv_eq (by decide) (show G188 19 = sy2_193 from (e203))) rfl ?_
                  refine jx_add (pc_q := 78) rfl rfl ?_
                  refine jx_ld (pc_q := 80) (l_q := L187) (st_q := [.int (i32 (sy1)), .int (i32 ((dc + sy2_193)))]) rfl (jl_iload gL187_5) ?_
                  refine jx_sub (pc_q := 81) rfl rfl ?_
                  refine jx_ld (pc_q := 83) (l_q := jSto1 L187 4 (.int (i32 (((dc + sy2_193) - sy1))))) (st_q := []) rfl rfl ?_
                  obtain ⟨L274, eL274⟩ : ∃ q, q = jSto1 L187 4 (.int (i32 (((dc + sy2_193) - sy1)))) := ⟨_, rfl⟩
                  rw [← eL274]
                  have gL274_0 : jGet L274 0 = some (.ref 66) := eL274 ▸ jg_ne (by decide) gL187_0 rfl
                  have gL274_1 : jGet L274 1 = some (.int (i32 (lv))) := eL274 ▸ jg_ne (by decide) gL187_1 rfl
                  have gL274_2 : jGet L274 2 = some (.int (i32 (vi))) := eL274 ▸ jg_ne (by decide) gL187_2 rfl
                  have gL274_3 : jGet L274 3 = some (.int (i32 (sy))) := eL274 ▸ jg_ne (by decide) gL187_3 rfl
                  have gL274_5 : jGet L274 5 = some (.int (i32 (sy1))) := eL274 ▸ jg_ne (by decide) gL187_5 rfl
                  have gL274_4 : jGet L274 4 = some (.int (i32 (((dc + sy2_193) - sy1)))) := eL274 ▸ jg_eq
                  refine jx_ld (pc_q := 84) (l_q := L274) (st_q := [.ref 66]) rfl (jl_aloadn gL274_0) ?_
                  refine jx_ld (pc_q := 85) (l_q := L274) (st_q := [.int (i32 (lv)), .ref 66]) rfl (jl_iloadn gL274_1) ?_
                  have b275 : (-1 : Int) ≤ A 5 (ln2_192).toNat ∧ A 5 (ln2_192).toNat ≤ 15 := hW.2 5 _
                  refine jx_vr (pc_q := 88) (as := [.int (i32 (lv))]) (st := []) rfl rfl rfl rfl ⟨rfl, rfl, Nat.le_of_ble_eq_true rfl⟩ rfl rfl (c_needLevel (dd := d) (hd := by omega) (hW := hW196) (lv := lv) (ln := ln2_192) (e_ln := show G188 9 = ln2_192 from (e202)) (li := li) (e_li := show G188 3 = li from ((hF197.1 3 rfl).trans ((hFx.1 3 rfl).trans (e_li)))) (fk := fk2_191) (e_fk := show G188 16 = fk2_191 from (e201)) (ll := A 5 (ln2_192).toNat) (e_ll := show A189 5 (ln2_192).toNat = A 5 (ln2_192).toNat from (congrFun ((hF197.2 5 rfl).trans (hFx.2 5 rfl)) _))  (h_lv := ⟨(Int.le_trans (by decide : (-2147483648 : Int) ≤ -2147483648) h_lv.1), (Int.le_trans h_lv.2 (by decide : (2147483647 : Int) ≤ 2147483647))⟩)  ) (fun o V_q hq => ?_)
                  obtain ⟨G276, A277, r278, fk2_279, rfl, rfl, hW280, hF281, b282, e283, q284⟩ := hq
                  have hF285 := Fr_tr hF213 hF281 (Fr_sub (by decide)) (Fr_sub (by decide))
                  have hP286 := Pf_f hP214 hF281 (by decide)
                  have hS287 := Fx_f hS215 hF281 (by decide)
                  have hV288 := Fx_f hV216 hF281 (by decide)
                  have sf289 : wD A277 (sy) (sy1) := wD_fx (Sg_fr (sb := sy1) hF281 (by decide)) (by omega) sf217
                  have sf290 : DS A277 (vi) (vi1) (sy) (sy1) := DS_ext (hF281.2 14 rfl) sf218
                  have sf291 : wD A277 (sy1) (sy2_193) := wD_fx (Sg_fr (sb := sy2_193) hF281 (by decide)) (by omega) a224
                  have sf292 : DS A277 (vi1) (vi2_195) (sy1) (sy2_193) := DS_ext (hF281.2 14 rfl) a225
                  have ec293 : ecn A277 (G276 31) = ec := (ecn_f (hF281.2 15 rfl) (hF281.1 31 rfl)).trans ec219
                  have bfk2_279 : (0 : Int) ≤ fk2_279 ∧ fk2_279 ≤ 6 := e283 ▸ hW280.1 16
                  refine .inr ⟨_, rfl, ?_⟩
                  rcases q284 with ⟨rfl, a294, a295, a296, a297⟩ | ⟨rfl, a298⟩
                  · have _q : True := trivial
                    have b299 : (0 : Int) ≤ A 4 (ln2_192).toNat ∧ A 4 (ln2_192).toNat ≤ 3000 := hW.2 4 _
                    have lt300 : A 3 (ln2_192).toNat < A 4 (ln2_192).toNat := LT_at (LT_ext (((hF281.1 3 rfl).trans ((hF197.1 3 rfl).trans (hFx.1 3 rfl)))) (((hF281.2 3 rfl).trans ((hF197.2 3 rfl).trans (hFx.2 3 rfl)))) (((hF281.2 4 rfl).trans ((hF197.2 4 rfl).trans (hFx.2 4 rfl)))) i_LT) (show G276 3 = li from ((hF281.1 3 rfl).trans ((hF197.1 3 rfl).trans ((hFx.1 3 rfl).trans (e_li))))) (show A277 3 (ln2_192).toNat = A 3 (ln2_192).toNat from (congrFun ((hF281.2 3 rfl).trans ((hF197.2 3 rfl).trans (hFx.2 3 rfl))) _)) (show A277 4 (ln2_192).toNat = A 4 (ln2_192).toNat from (congrFun ((hF281.2 4 rfl).trans ((hF197.2 4 rfl).trans (hFx.2 4 rfl))) _)) (by omega) (by omega)
                    refine jx_if_eq (pc_q := 91) (tg := 95) rfl rfl rfl (by decide) (by decide) (fun h301 => ?_) (fun h301 => ?_)
                    · have _q := h301
                      exact absurd h301 (by omega)
                    · have _q := h301
                      refine jx_ld (pc_q := 92) (l_q := L274) (st_q := [.ref 66]) rfl (jl_aloadn gL274_0) ?_
                      refine jx_vr (pc_q := 95) (as := []) (st := []) rfl rfl rfl rfl ⟨rfl, rfl, Nat.le_of_ble_eq_true rfl⟩ rfl rfl (c_openLine (dd := d) (hd := by omega) (hW := hW280)  (ln := ln2_192) (e_ln := show G276 9 = ln2_192 from ((hF281.1 9 rfl).trans (e202))) (le := A 4 (ln2_192).toNat) (e_le := show A277 4 (ln2_192).toNat = A 4 (ln2_192).toNat from (congrFun ((hF281.2 4 rfl).trans ((hF197.2 4 rfl).trans (hFx.2 4 rfl))) _)) (lf := A 3 (ln2_192).toNat) (e_lf := show A277 3 (ln2_192).toNat = A 3 (ln2_192).toNat from (congrFun ((hF281.2 3 rfl).trans ((hF197.2 3 rfl).trans (hFx.2 3 rfl))) _))    (p_0 := by omega)) (fun o V_q hq => ?_)
                      obtain ⟨G302, A303, at2_304, tk2_305, op2_306, rfl, rfl, hW307, hF308, e309, e310, e311, p312, p313, p314, p315, -⟩ := hq
                      have hF317 := Fr_tr hF285 hF308 (Fr_sub (by decide)) (Fr_sub (by decide))
                      have hP318 := Pf_f hP286 hF308 (by decide)
                      have hS319 := Fx_f hS287 hF308 (by decide)
                      have hV320 := Fx_f hV288 hF308 (by decide)
                      have sf321 : wD A303 (sy) (sy1) := wD_fx (Sg_fr (sb := sy1) hF308 (by decide)) (by omega) sf289
                      have sf322 : DS A303 (vi) (vi1) (sy) (sy1) := DS_ext (hF308.2 14 rfl) sf290
                      have sf323 : wD A303 (sy1) (sy2_193) := wD_fx (Sg_fr (sb := sy2_193) hF308 (by decide)) (by omega) sf291
                      have sf324 : DS A303 (vi1) (vi2_195) (sy1) (sy2_193) := DS_ext (hF308.2 14 rfl) sf292
                      have ec325 : ecn A303 (G302 31) = ec := (ecn_f (hF308.2 15 rfl) (hF308.1 31 rfl)).trans ec293
                      have bat2_304 : (0 : Int) ≤ at2_304 ∧ at2_304 ≤ 3002 := e309 ▸ hW307.1 10
                      have ztk2_305 := tz_b tk2_305
                      have btk2_305 : (0 : Int) ≤ tk2_305 ∧ tk2_305 ≤ 5 := e310 ▸ hW307.1 11
                      have bop2_306 : (-2147483648 : Int) ≤ op2_306 ∧ op2_306 ≤ 2147483647 := e311 ▸ hW307.1 15
                      refine .inl ⟨rfl, ?_⟩
                      have pz326 : (A 3 (ln2_192).toNat) + tz tk2_305 ≤ at2_304 := by omega
                      refine jx_go (tg := 27) rfl rfl ?_
                      have z327 := tz_f (tk2_305)
                      exact ih27 _ (by omega) L274 G302 A303 (((dc + sy2_193) - sy1)) (ln2_192) (at2_304) (tk2_305) (fk2_279) (op2_306) (sy2_193) (na2_194) (vi2_195) (A 4 (ln2_192).toNat) rfl gL274_0 gL274_1 gL274_2 gL274_3 gL274_4 hW307 hF317 hP318 hS319 hV320 (((hF308.1 9 rfl).trans ((hF281.1 9 rfl).trans (e202)))) ((e309)) ((e310)) (((hF308.1 16 rfl).trans (e283))) ((e311)) (((hF308.1 19 rfl).trans ((hF281.1 19 rfl).trans (e203)))) (((hF308.1 28 rfl).trans ((hF281.1 28 rfl).trans (e204)))) (((hF308.1 29 rfl).trans ((hF281.1 29 rfl).trans (e205)))) ((congrFun ((hF308.2 4 rfl).trans ((hF281.2 4 rfl).trans ((hF197.2 4 rfl).trans (hFx.2 4 rfl)))) _)) (((hF308.1 31 rfl).trans ((hF281.1 31 rfl).trans ((hF197.1 31 rfl).trans (fx_31))))) (ec325) (by omega) (by omega) (by omega) (by omega) (by omega) (by omega) (by omega) (by omega) (by omega) (by omega) (by omega) (by omega) (by omega) ((wD_tr sf321 sf323)) ((DS_app sf322 sf324 (by omega) (by omega)))
                  · have _q : True := trivial
                    refine jx_if_eq (pc_q := 91) (tg := 95) rfl rfl rfl (by decide) (by decide) (fun h328 => ?_) (fun h328 => ?_)
                    · have _q := h328
                      refine jx_go (tg := 27) rfl rfl ?_
                      refine jx_ld (pc_q := 28) (l_q := L274) (st_q := [.ref 66]) rfl (jl_aloadn gL274_0) ?_
                      refine jx_vr (pc_q := 31) (as := []) (st := []) rfl rfl rfl rfl ⟨rfl, rfl, Nat.le_of_ble_eq_true rfl⟩ rfl rfl (c_bad (dd := d) (hd := by omega) (hW := hW280)  (fk := fk2_279) (e_fk := show G276 16 = fk2_279 from (e283))    ) (fun o V_q hq => ?_)
                      obtain ⟨r329, rfl, rfl, b330, q331⟩ := hq
                      refine .inr ⟨_, rfl, ?_⟩
                      rcases q331 with ⟨rfl, a332⟩ | ⟨rfl, a333⟩
                      · have _q : True := trivial
                        refine jx_if_ne (pc_q := 34) (tg := 98) rfl rfl rfl (by decide) (by decide) (fun h334 => ?_) (fun h334 => ?_)
                        · have _q := h334
                          refine jx_ld (pc_q := 99) (l_q := L274) (st_q := [.ref 66]) rfl (jl_aloadn gL274_0) ?_
                          refine jx_vr (pc_q := 102) (as := []) (st := []) rfl rfl rfl rfl ⟨rfl, rfl, Nat.le_of_ble_eq_true rfl⟩ rfl rfl (c_bad (dd := d) (hd := by omega) (hW := hW280)  (fk := fk2_279) (e_fk := show G276 16 = fk2_279 from (e283))    ) (fun o V_q hq => ?_)
                          obtain ⟨r335, rfl, rfl, b336, q337⟩ := hq
                          refine .inr ⟨_, rfl, ?_⟩
                          rcases q337 with ⟨rfl, a338⟩ | ⟨rfl, a339⟩
                          · have _q : True := trivial
                            refine jx_if_eq (pc_q := 105) (tg := 109) rfl rfl rfl (by decide) (by decide) (fun h340 => ?_) (fun h340 => ?_)
                            · have _q := h340
                              exact absurd h340 (by omega)
                            · have _q := h340
                              refine jx_ar (pc_q := 106) (st_q := [.int (i32 (0))]) rfl rfl rfl rfl ?_
                              refine jx_go (tg := 114) rfl rfl ?_
                              refine jx_ld (pc_q := 116) (l_q := jSto1 L274 5 (.int (i32 (0)))) (st_q := []) rfl rfl ?_
                              obtain ⟨L341, eL341⟩ : ∃ q, q = jSto1 L274 5 (.int (i32 (0))) := ⟨_, rfl⟩
                              rw [← eL341]
                              have gL341_0 : jGet L341 0 = some (.ref 66) := eL341 ▸ jg_ne (by decide) gL274_0 rfl
                              have gL341_1 : jGet L341 1 = some (.int (i32 (lv))) := eL341 ▸ jg_ne (by decide) gL274_1 rfl
                              have gL341_2 : jGet L341 2 = some (.int (i32 (vi))) := eL341 ▸ jg_ne (by decide) gL274_2 rfl
                              have gL341_3 : jGet L341 3 = some (.int (i32 (sy))) := eL341 ▸ jg_ne (by decide) gL274_3 rfl
                              have gL341_4 : jGet L341 4 = some (.int (i32 (((dc + sy2_193) - sy1)))) := eL341 ▸ jg_ne (by decide) gL274_4 rfl
                              have gL341_5 : jGet L341 5 = some (.int (i32 (0))) := eL341 ▸ jg_eq
                              refine jx_ld (pc_q := 117) (l_q := L341) (st_q := [.ref 66]) rfl (jl_aloadn gL341_0) ?_
                              refine jx_vr (pc_q := 120) (as := []) (st := []) rfl rfl rfl rfl ⟨rfl, rfl, Nat.le_of_ble_eq_true rfl⟩ rfl rfl (c_bad (dd := d) (hd := by omega) (hW := hW280)  (fk := fk2_279) (e_fk := show G276 16 = fk2_279 from (e283))    ) (fun o V_q hq => ?_)
                              obtain ⟨r342, rfl, rfl, b343, q344⟩ := hq
                              refine .inr ⟨_, rfl, ?_⟩
                              rcases q344 with ⟨rfl, a345⟩ | ⟨rfl, a346⟩
                              · have _q : True := trivial
                                refine jx_if_ne (pc_q := 123) (tg := 140) rfl rfl rfl (by decide) (by decide) (fun h347 => ?_) (fun h347 => ?_)
                                · have _q := h347
                                  refine jx_ld (pc_q := 141) (l_q := L341) (st_q := [.ref 66]) rfl (jl_aloadn gL341_0) ?_
                                  refine jx_ld (pc_q := 142) (l_q := L341) (st_q := [.int (i32 (vi)), .ref 66]) rfl (jl_iloadn gL341_2) ?_
                                  refine jr_put (pc_q := 145) (i := 29) (z := vi) rfl rfl (by decide) rfl rfl rfl rfl rfl rfl ?_
                                  have hW348 : Wk (uG G276 29 (vi)) A277 := Wk_g hW280 (show (0 : Int) ≤ vi by omega) (show vi ≤ (202 : Int) by omega)
                                  have hF349 := Fr_g (z := vi) (i := 29) hF285 (by decide)
                                  have ec350 : ecn A277 ((uG G276 29 (vi)) 31) = ec := ec293
                                  refine jx_ld (pc_q := 147) (l_q := L341) (st_q := [.int (i32 (0))]) rfl (jl_iload gL341_5) ?_
                                  refine jx_rt (v := some (.int (i32 (0)))) rfl rfl rfl rfl rfl rfl ?_
                                  exact ⟨_, _, _, ln2_192, at2_190, fk2_279, nd, sy2_193, na2_194, vi, A 3 (ln2_192).toNat, ec, rfl, rfl, hW348, hF349, hP286, hS287, hV288, by omega, ((hF281.1 9 rfl).trans (e202)), ((hF281.1 10 rfl).trans (e200)), (e283), ((hF281.1 31 rfl).trans ((hF197.1 31 rfl).trans (fx_31))), ((hF281.1 19 rfl).trans (e203)), ((hF281.1 28 rfl).trans (e204)), rfl, (congrFun ((hF281.2 3 rfl).trans ((hF197.2 3 rfl).trans (hFx.2 3 rfl))) _), ec350, by omega, by omega, by omega, by omega, by omega, by omega, by omega, by omega, by omega, by first | exact Or.inl (⟨by omega, by omega⟩)⟩
                                · have _q := h347
                                  exact absurd h347 (by omega)
                              · have _q : True := trivial
                                exfalso
                                omega
                          · have _q : True := trivial
                            exfalso
                            omega
                        · have _q := h334
                          exact absurd h334 (by omega)
                      · have _q : True := trivial
                        exfalso
                        omega
                    · have _q := h328
                      exact absurd h328 (by omega)
              · have _q := h186
                exact absurd h186 (by omega)
            · have _q : True := trivial
              refine jx_if_ne (pc_q := 52) (tg := 61) rfl rfl rfl (by decide) (by decide) (fun h351 => ?_) (fun h351 => ?_)
              · have _q := h351
                exact absurd h351 (by omega)
              · have _q := h351
                refine jx_ld (pc_q := 53) (l_q := L) (st_q := [.ref 66]) rfl (jl_aloadn gL_0) ?_
                refine jx_ar (pc_q := 55) (st_q := [.int (i32 (91)), .ref 66]) rfl rfl rfl rfl ?_
                refine jx_vr (pc_q := 58) (as := [.int (i32 (91))]) (st := []) rfl rfl rfl rfl ⟨rfl, rfl, Nat.le_of_ble_eq_true rfl⟩ rfl rfl (c_is (dd := d) (hd := by omega) (hW := hWx) (k := 91) (tk := tk1) (e_tk := show Gx 11 = tk1 from (ex_tk1)) (tn := Gx 13) (e_tn := show Gx 13 = Gx 13 from rfl)  (h_k := ⟨(by decide), (by decide)⟩)  ) (fun o V_q hq => ?_)
                obtain ⟨r352, rfl, rfl, b353, q354⟩ := hq
                refine .inr ⟨_, rfl, ?_⟩
                rcases q354 with ⟨rfl, a355, a356, a357⟩ | rfl
                · have _q : True := trivial
                  refine jx_if_eq (pc_q := 61) (tg := 98) rfl rfl rfl (by decide) (by decide) (fun h358 => ?_) (fun h358 => ?_)
                  · have _q := h358
                    exact absurd h358 (by omega)
                  · have _q := h358
                    refine jx_ld (pc_q := 62) (l_q := L) (st_q := [.ref 66]) rfl (jl_aloadn gL_0) ?_
                    refine jr_get (pc_q := 65) (i := 19) (v := .int (i32 (sy1))) rfl rfl (by decide) (rFv_eq (by decide) (show Gx 19 = sy1 from (ex_sy1))) rfl ?_
                    refine jx_ld (pc_q := 67) (l_q := jSto1 L 5 (.int (i32 (sy1)))) (st_q := []) rfl rfl ?_
                    obtain ⟨L359, eL359⟩ : ∃ q, q = jSto1 L 5 (.int (i32 (sy1))) := ⟨_, rfl⟩
                    rw [← eL359]
                    have gL359_0 : jGet L359 0 = some (.ref 66) := eL359 ▸ jg_ne (by decide) gL_0 rfl
                    have gL359_1 : jGet L359 1 = some (.int (i32 (lv))) := eL359 ▸ jg_ne (by decide) gL_1 rfl
                    have gL359_2 : jGet L359 2 = some (.int (i32 (vi))) := eL359 ▸ jg_ne (by decide) gL_2 rfl
                    have gL359_3 : jGet L359 3 = some (.int (i32 (sy))) := eL359 ▸ jg_ne (by decide) gL_3 rfl
                    have gL359_4 : jGet L359 4 = some (.int (i32 (dc))) := eL359 ▸ jg_ne (by decide) gL_4 rfl
                    have gL359_5 : jGet L359 5 = some (.int (i32 (sy1))) := eL359 ▸ jg_eq
                    refine jx_ld (pc_q := 68) (l_q := L359) (st_q := [.ref 66]) rfl (jl_aloadn gL359_0) ?_
                    refine jx_vr (pc_q := 71) (as := []) (st := []) rfl rfl rfl rfl ⟨rfl, rfl, Nat.le_of_ble_eq_true rfl⟩ rfl rfl (c_readDeclaration (dd := d) (hd := by omega) (hW := hWx)  (ln := ln1) (e_ln := show Gx 9 = ln1 from (ex_ln1)) (le := le1) (e_le := show Ax 4 (ln1).toNat = le1 from (ex_le1)) (at0 := at1) (e_at0 := show Gx 10 = at1 from (ex_at1)) (fk := fk1) (e_fk := show Gx 16 = fk1 from (ex_fk1)) (tk0 := tk1) (e_tk0 := show Gx 11 = tk1 from (ex_tk1)) (li := li) (e_li := show Gx 3 = li from ((hFx.1 3 rfl).trans (e_li))) (sy := sy1) (e_sy := show Gx 19 = sy1 from (ex_sy1)) (na := na1) (e_na := show Gx 28 = na1 from (ex_na1)) (vi := vi1) (e_vi := show Gx 29 = vi1 from (ex_vi1))    (p_0 := by omega) (p_1 := by omega) (p_2 := by omega) (p_3 := by omega) (p_4 := by omega)) (fun o V_q hq => ?_)
                    obtain ⟨G360, A361, at2_362, fk2_363, ln2_364, sy2_365, na2_366, vi2_367, rfl, rfl, hW368, hF369, hQ370, hQ371, e372, e373, e374, e375, e376, e377, p378, p379, p380, p381, p382, p383, q384⟩ := hq
                    have hF385 := Fr_tr hFx hF369 (Fr_sub (by decide)) (Fr_sub (by decide))
                    have hP386 := Pf_f hPx hF369 (by decide)
                    have hS387 := Fx_tr hSx hQ370 (by omega)
                    have hV388 := Fx_tr hVx hQ371 (by omega)
                    have sf389 : wD A361 (sy) (sy1) := wD_fx hQ370 (by omega) iv_12
                    have sf390 : DS A361 (vi) (vi1) (sy) (sy1) := DS_fx hQ371 (by omega) iv_13
                    have ec391 : ecn A361 (G360 31) = ec := (ecn_f (hF369.2 15 rfl) (hF369.1 31 rfl)).trans fx_900
                    have bat2_362 : (0 : Int) ≤ at2_362 ∧ at2_362 ≤ 3002 := e372 ▸ hW368.1 10
                    have bfk2_363 : (0 : Int) ≤ fk2_363 ∧ fk2_363 ≤ 6 := e373 ▸ hW368.1 16
                    have bln2_364 : (0 : Int) ≤ ln2_364 ∧ ln2_364 ≤ 3000 := e374 ▸ hW368.1 9
                    have bsy2_365 : (0 : Int) ≤ sy2_365 ∧ sy2_365 ≤ 202 := e375 ▸ hW368.1 19
                    have bna2_366 : (0 : Int) ≤ na2_366 ∧ na2_366 ≤ 200 := e376 ▸ hW368.1 28
                    have bvi2_367 : (0 : Int) ≤ vi2_367 ∧ vi2_367 ≤ 202 := e377 ▸ hW368.1 29
                    refine .inl ⟨rfl, ?_⟩
                    rcases q384 with ⟨a392, a393⟩ | ⟨a394, a395, a396, a397⟩
                    · have _q : True := trivial
                      refine jx_ld (pc_q := 73) (l_q := L359) (st_q := [.int (i32 (dc))]) rfl (jl_iload gL359_4) ?_
                      refine jx_ld (pc_q := 74) (l_q := L359) (st_q := [.ref 66, .int (i32 (dc))]) rfl (jl_aloadn gL359_0) ?_
                      refine jr_get (pc_q := 77) (i := 19) (v := .int (i32 (sy2_365))) rfl rfl (by decide) (rFv_eq (by decide) (show G360 19 = sy2_365 from (e375))) rfl ?_
                      refine jx_add (pc_q := 78) rfl rfl ?_
                      refine jx_ld (pc_q := 80) (l_q := L359) (st_q := [.int (i32 (sy1)), .int (i32 ((dc + sy2_365)))]) rfl (jl_iload gL359_5) ?_
                      refine jx_sub (pc_q := 81) rfl rfl ?_
                      refine jx_ld (pc_q := 83) (l_q := jSto1 L359 4 (.int (i32 (((dc + sy2_365) - sy1))))) (st_q := []) rfl rfl ?_
                      obtain ⟨L398, eL398⟩ : ∃ q, q = jSto1 L359 4 (.int (i32 (((dc + sy2_365) - sy1)))) := ⟨_, rfl⟩
                      rw [← eL398]
                      have gL398_0 : jGet L398 0 = some (.ref 66) := eL398 ▸ jg_ne (by decide) gL359_0 rfl
                      have gL398_1 : jGet L398 1 = some (.int (i32 (lv))) := eL398 ▸ jg_ne (by decide) gL359_1 rfl
                      have gL398_2 : jGet L398 2 = some (.int (i32 (vi))) := eL398 ▸ jg_ne (by decide) gL359_2 rfl
                      have gL398_3 : jGet L398 3 = some (.int (i32 (sy))) := eL398 ▸ jg_ne (by decide) gL359_3 rfl
                      have gL398_5 : jGet L398 5 = some (.int (i32 (sy1))) := eL398 ▸ jg_ne (by decide) gL359_5 rfl
                      have gL398_4 : jGet L398 4 = some (.int (i32 (((dc + sy2_365) - sy1)))) := eL398 ▸ jg_eq
                      refine jx_ld (pc_q := 84) (l_q := L398) (st_q := [.ref 66]) rfl (jl_aloadn gL398_0) ?_
                      refine jx_ld (pc_q := 85) (l_q := L398) (st_q := [.int (i32 (lv)), .ref 66]) rfl (jl_iloadn gL398_1) ?_
                      have b399 : (-1 : Int) ≤ A 5 (ln2_364).toNat ∧ A 5 (ln2_364).toNat ≤ 15 := hW.2 5 _
                      refine jx_vr (pc_q := 88) (as := [.int (i32 (lv))]) (st := []) rfl rfl rfl rfl ⟨rfl, rfl, Nat.le_of_ble_eq_true rfl⟩ rfl rfl (c_needLevel (dd := d) (hd := by omega) (hW := hW368) (lv := lv) (ln := ln2_364) (e_ln := show G360 9 = ln2_364 from (e374)) (li := li) (e_li := show G360 3 = li from ((hF369.1 3 rfl).trans ((hFx.1 3 rfl).trans (e_li)))) (fk := fk2_363) (e_fk := show G360 16 = fk2_363 from (e373)) (ll := A 5 (ln2_364).toNat) (e_ll := show A361 5 (ln2_364).toNat = A 5 (ln2_364).toNat from (congrFun ((hF369.2 5 rfl).trans (hFx.2 5 rfl)) _))  (h_lv := ⟨(Int.le_trans (by decide : (-2147483648 : Int) ≤ -2147483648) h_lv.1), (Int.le_trans h_lv.2 (by decide : (2147483647 : Int) ≤ 2147483647))⟩)  ) (fun o V_q hq => ?_)
                      obtain ⟨G400, A401, r402, fk2_403, rfl, rfl, hW404, hF405, b406, e407, q408⟩ := hq
                      have hF409 := Fr_tr hF385 hF405 (Fr_sub (by decide)) (Fr_sub (by decide))
                      have hP410 := Pf_f hP386 hF405 (by decide)
                      have hS411 := Fx_f hS387 hF405 (by decide)
                      have hV412 := Fx_f hV388 hF405 (by decide)
                      have sf413 : wD A401 (sy) (sy1) := wD_fx (Sg_fr (sb := sy1) hF405 (by decide)) (by omega) sf389
                      have sf414 : DS A401 (vi) (vi1) (sy) (sy1) := DS_ext (hF405.2 14 rfl) sf390
                      have ec415 : ecn A401 (G400 31) = ec := (ecn_f (hF405.2 15 rfl) (hF405.1 31 rfl)).trans ec391
                      have bfk2_403 : (0 : Int) ≤ fk2_403 ∧ fk2_403 ≤ 6 := e407 ▸ hW404.1 16
                      refine .inr ⟨_, rfl, ?_⟩
                      rcases q408 with ⟨rfl, a416, a417, a418, a419⟩ | ⟨rfl, a420⟩
                      · have _q : True := trivial
                        exfalso
                        omega
                      · have _q : True := trivial
                        refine jx_if_eq (pc_q := 91) (tg := 95) rfl rfl rfl (by decide) (by decide) (fun h421 => ?_) (fun h421 => ?_)
                        · have _q := h421
                          refine jx_go (tg := 27) rfl rfl ?_
                          refine jx_ld (pc_q := 28) (l_q := L398) (st_q := [.ref 66]) rfl (jl_aloadn gL398_0) ?_
                          refine jx_vr (pc_q := 31) (as := []) (st := []) rfl rfl rfl rfl ⟨rfl, rfl, Nat.le_of_ble_eq_true rfl⟩ rfl rfl (c_bad (dd := d) (hd := by omega) (hW := hW404)  (fk := fk2_403) (e_fk := show G400 16 = fk2_403 from (e407))    ) (fun o V_q hq => ?_)
                          obtain ⟨r422, rfl, rfl, b423, q424⟩ := hq
                          refine .inr ⟨_, rfl, ?_⟩
                          rcases q424 with ⟨rfl, a425⟩ | ⟨rfl, a426⟩
                          · have _q : True := trivial
                            refine jx_if_ne (pc_q := 34) (tg := 98) rfl rfl rfl (by decide) (by decide) (fun h427 => ?_) (fun h427 => ?_)
                            · have _q := h427
                              refine jx_ld (pc_q := 99) (l_q := L398) (st_q := [.ref 66]) rfl (jl_aloadn gL398_0) ?_
                              refine jx_vr (pc_q := 102) (as := []) (st := []) rfl rfl rfl rfl ⟨rfl, rfl, Nat.le_of_ble_eq_true rfl⟩ rfl rfl (c_bad (dd := d) (hd := by omega) (hW := hW404)  (fk := fk2_403) (e_fk := show G400 16 = fk2_403 from (e407))    ) (fun o V_q hq => ?_)
                              obtain ⟨r428, rfl, rfl, b429, q430⟩ := hq
                              refine .inr ⟨_, rfl, ?_⟩
                              rcases q430 with ⟨rfl, a431⟩ | ⟨rfl, a432⟩
                              · have _q : True := trivial
                                refine jx_if_eq (pc_q := 105) (tg := 109) rfl rfl rfl (by decide) (by decide) (fun h433 => ?_) (fun h433 => ?_)
                                · have _q := h433
                                  exact absurd h433 (by omega)
                                · have _q := h433
                                  refine jx_ar (pc_q := 106) (st_q := [.int (i32 (0))]) rfl rfl rfl rfl ?_
                                  refine jx_go (tg := 114) rfl rfl ?_
                                  refine jx_ld (pc_q := 116) (l_q := jSto1 L398 5 (.int (i32 (0)))) (st_q := []) rfl rfl ?_
                                  obtain ⟨L434, eL434⟩ : ∃ q, q = jSto1 L398 5 (.int (i32 (0))) := ⟨_, rfl⟩
                                  rw [← eL434]
                                  have gL434_0 : jGet L434 0 = some (.ref 66) := eL434 ▸ jg_ne (by decide) gL398_0 rfl
                                  have gL434_1 : jGet L434 1 = some (.int (i32 (lv))) := eL434 ▸ jg_ne (by decide) gL398_1 rfl
                                  have gL434_2 : jGet L434 2 = some (.int (i32 (vi))) := eL434 ▸ jg_ne (by decide) gL398_2 rfl
                                  have gL434_3 : jGet L434 3 = some (.int (i32 (sy))) := eL434 ▸ jg_ne (by decide) gL398_3 rfl
                                  have gL434_4 : jGet L434 4 = some (.int (i32 (((dc + sy2_365) - sy1)))) := eL434 ▸ jg_ne (by decide) gL398_4 rfl
                                  have gL434_5 : jGet L434 5 = some (.int (i32 (0))) := eL434 ▸ jg_eq
                                  refine jx_ld (pc_q := 117) (l_q := L434) (st_q := [.ref 66]) rfl (jl_aloadn gL434_0) ?_
                                  refine jx_vr (pc_q := 120) (as := []) (st := []) rfl rfl rfl rfl ⟨rfl, rfl, Nat.le_of_ble_eq_true rfl⟩ rfl rfl (c_bad (dd := d) (hd := by omega) (hW := hW404)  (fk := fk2_403) (e_fk := show G400 16 = fk2_403 from (e407))    ) (fun o V_q hq => ?_)
                                  obtain ⟨r435, rfl, rfl, b436, q437⟩ := hq
                                  refine .inr ⟨_, rfl, ?_⟩
                                  rcases q437 with ⟨rfl, a438⟩ | ⟨rfl, a439⟩
                                  · have _q : True := trivial
                                    refine jx_if_ne (pc_q := 123) (tg := 140) rfl rfl rfl (by decide) (by decide) (fun h440 => ?_) (fun h440 => ?_)
                                    · have _q := h440
                                      refine jx_ld (pc_q := 141) (l_q := L434) (st_q := [.ref 66]) rfl (jl_aloadn gL434_0) ?_
                                      refine jx_ld (pc_q := 142) (l_q := L434) (st_q := [.int (i32 (vi)), .ref 66]) rfl (jl_iloadn gL434_2) ?_
                                      refine jr_put (pc_q := 145) (i := 29) (z := vi) rfl rfl (by decide) rfl rfl rfl rfl rfl rfl ?_
                                      have hW441 : Wk (uG G400 29 (vi)) A401 := Wk_g hW404 (show (0 : Int) ≤ vi by omega) (show vi ≤ (202 : Int) by omega)
                                      have hF442 := Fr_g (z := vi) (i := 29) hF409 (by decide)
                                      have ec443 : ecn A401 ((uG G400 29 (vi)) 31) = ec := ec415
                                      refine jx_ld (pc_q := 147) (l_q := L434) (st_q := [.int (i32 (0))]) rfl (jl_iload gL434_5) ?_
                                      refine jx_rt (v := some (.int (i32 (0)))) rfl rfl rfl rfl rfl rfl ?_
                                      exact ⟨_, _, _, ln2_364, at2_362, fk2_403, nd, sy2_365, na2_366, vi, A 3 (ln2_364).toNat, ec, rfl, rfl, hW441, hF442, hP410, hS411, hV412, by omega, ((hF405.1 9 rfl).trans (e374)), ((hF405.1 10 rfl).trans (e372)), (e407), ((hF405.1 31 rfl).trans ((hF369.1 31 rfl).trans (fx_31))), ((hF405.1 19 rfl).trans (e375)), ((hF405.1 28 rfl).trans (e376)), rfl, (congrFun ((hF405.2 3 rfl).trans ((hF369.2 3 rfl).trans (hFx.2 3 rfl))) _), ec443, by omega, by omega, by omega, by omega, by omega, by omega, by omega, by omega, by omega, by first | exact Or.inl (⟨by omega, by omega⟩)⟩
                                    · have _q := h440
                                      exact absurd h440 (by omega)
                                  · have _q : True := trivial
                                    exfalso
                                    omega
                              · have _q : True := trivial
                                exfalso
                                omega
                            · have _q := h427
                              exact absurd h427 (by omega)
                          · have _q : True := trivial
                            exfalso
                            omega
                        · have _q := h421
                          exact absurd h421 (by omega)
                    · have _q : True := trivial
                      have b444 : (0 : Int) ≤ A 3 (ln2_364).toNat ∧ A 3 (ln2_364).toNat ≤ 3000 := hW.2 3 _
                      have lt445 : ln2_364 < li → le1 < A 3 (ln2_364).toNat := fun hh => LT_nx (LT_ext (((hF369.1 3 rfl).trans (hFx.1 3 rfl))) (((hF369.2 3 rfl).trans (hFx.2 3 rfl))) (((hF369.2 4 rfl).trans (hFx.2 4 rfl))) i_LT) (show G360 3 = li from ((hF369.1 3 rfl).trans ((hFx.1 3 rfl).trans (e_li)))) (show A361 4 (ln1).toNat = le1 from (congrFun (hF369.2 4 rfl) _).trans (ex_le1)) (show A361 3 (ln2_364).toNat = A 3 (ln2_364).toNat from (congrFun ((hF369.2 3 rfl).trans (hFx.2 3 rfl)) _)) (show ln2_364 = ln1 + 1 by omega) (by omega) hh
                      refine jx_ld (pc_q := 73) (l_q := L359) (st_q := [.int (i32 (dc))]) rfl (jl_iload gL359_4) ?_
                      refine jx_ld (pc_q := 74) (l_q := L359) (st_q := [.ref 66, .int (i32 (dc))]) rfl (jl_aloadn gL359_0) ?_
                      refine jr_get (pc_q := 77) (i := 19) (v := .int (i32 (sy2_365))) rfl rfl (by decide) (rFv_eq (by decide) (show G360 19 = sy2_365 from (e375))) rfl ?_
                      refine jx_add (pc_q := 78) rfl rfl ?_
                      refine jx_ld (pc_q := 80) (l_q := L359) (st_q := [.int (i32 (sy1)), .int (i32 ((dc + sy2_365)))]) rfl (jl_iload gL359_5) ?_
                      refine jx_sub (pc_q := 81) rfl rfl ?_
                      refine jx_ld (pc_q := 83) (l_q := jSto1 L359 4 (.int (i32 (((dc + sy2_365) - sy1))))) (st_q := []) rfl rfl ?_
                      obtain ⟨L446, eL446⟩ : ∃ q, q = jSto1 L359 4 (.int (i32 (((dc + sy2_365) - sy1)))) := ⟨_, rfl⟩
                      rw [← eL446]
                      have gL446_0 : jGet L446 0 = some (.ref 66) := eL446 ▸ jg_ne (by decide) gL359_0 rfl
                      have gL446_1 : jGet L446 1 = some (.int (i32 (lv))) := eL446 ▸ jg_ne (by decide) gL359_1 rfl
                      have gL446_2 : jGet L446 2 = some (.int (i32 (vi))) := eL446 ▸ jg_ne (by decide) gL359_2 rfl
                      have gL446_3 : jGet L446 3 = some (.int (i32 (sy))) := eL446 ▸ jg_ne (by decide) gL359_3 rfl
                      have gL446_5 : jGet L446 5 = some (.int (i32 (sy1))) := eL446 ▸ jg_ne (by decide) gL359_5 rfl
                      have gL446_4 : jGet L446 4 = some (.int (i32 (((dc + sy2_365) - sy1)))) := eL446 ▸ jg_eq
                      refine jx_ld (pc_q := 84) (l_q := L446) (st_q := [.ref 66]) rfl (jl_aloadn gL446_0) ?_
                      refine jx_ld (pc_q := 85) (l_q := L446) (st_q := [.int (i32 (lv)), .ref 66]) rfl (jl_iloadn gL446_1) ?_
                      have b447 : (-1 : Int) ≤ A 5 (ln2_364).toNat ∧ A 5 (ln2_364).toNat ≤ 15 := hW.2 5 _
                      refine jx_vr (pc_q := 88) (as := [.int (i32 (lv))]) (st := []) rfl rfl rfl rfl ⟨rfl, rfl, Nat.le_of_ble_eq_true rfl⟩ rfl rfl (c_needLevel (dd := d) (hd := by omega) (hW := hW368) (lv := lv) (ln := ln2_364) (e_ln := show G360 9 = ln2_364 from (e374)) (li := li) (e_li := show G360 3 = li from ((hF369.1 3 rfl).trans ((hFx.1 3 rfl).trans (e_li)))) (fk := fk2_363) (e_fk := show G360 16 = fk2_363 from (e373)) (ll := A 5 (ln2_364).toNat) (e_ll := show A361 5 (ln2_364).toNat = A 5 (ln2_364).toNat from (congrFun ((hF369.2 5 rfl).trans (hFx.2 5 rfl)) _))  (h_lv := ⟨(Int.le_trans (by decide : (-2147483648 : Int) ≤ -2147483648) h_lv.1), (Int.le_trans h_lv.2 (by decide : (2147483647 : Int) ≤ 2147483647))⟩)  ) (fun o V_q hq => ?_)
                      obtain ⟨G448, A449, r450, fk2_451, rfl, rfl, hW452, hF453, b454, e455, q456⟩ := hq
                      have hF457 := Fr_tr hF385 hF453 (Fr_sub (by decide)) (Fr_sub (by decide))
                      have hP458 := Pf_f hP386 hF453 (by decide)
                      have hS459 := Fx_f hS387 hF453 (by decide)
                      have hV460 := Fx_f hV388 hF453 (by decide)
                      have sf461 : wD A449 (sy) (sy1) := wD_fx (Sg_fr (sb := sy1) hF453 (by decide)) (by omega) sf389
                      have sf462 : DS A449 (vi) (vi1) (sy) (sy1) := DS_ext (hF453.2 14 rfl) sf390
                      have sf463 : wD A449 (sy1) (sy2_365) := wD_fx (Sg_fr (sb := sy2_365) hF453 (by decide)) (by omega) a396
                      have sf464 : DS A449 (vi1) (vi2_367) (sy1) (sy2_365) := DS_ext (hF453.2 14 rfl) a397
                      have ec465 : ecn A449 (G448 31) = ec := (ecn_f (hF453.2 15 rfl) (hF453.1 31 rfl)).trans ec391
                      have bfk2_451 : (0 : Int) ≤ fk2_451 ∧ fk2_451 ≤ 6 := e455 ▸ hW452.1 16
                      refine .inr ⟨_, rfl, ?_⟩
                      rcases q456 with ⟨rfl, a466, a467, a468, a469⟩ | ⟨rfl, a470⟩
                      · have _q : True := trivial
                        have b471 : (0 : Int) ≤ A 4 (ln2_364).toNat ∧ A 4 (ln2_364).toNat ≤ 3000 := hW.2 4 _
                        have lt472 : A 3 (ln2_364).toNat < A 4 (ln2_364).toNat := LT_at (LT_ext (((hF453.1 3 rfl).trans ((hF369.1 3 rfl).trans (hFx.1 3 rfl)))) (((hF453.2 3 rfl).trans ((hF369.2 3 rfl).trans (hFx.2 3 rfl)))) (((hF453.2 4 rfl).trans ((hF369.2 4 rfl).trans (hFx.2 4 rfl)))) i_LT) (show G448 3 = li from ((hF453.1 3 rfl).trans ((hF369.1 3 rfl).trans ((hFx.1 3 rfl).trans (e_li))))) (show A449 3 (ln2_364).toNat = A 3 (ln2_364).toNat from (congrFun ((hF453.2 3 rfl).trans ((hF369.2 3 rfl).trans (hFx.2 3 rfl))) _)) (show A449 4 (ln2_364).toNat = A 4 (ln2_364).toNat from (congrFun ((hF453.2 4 rfl).trans ((hF369.2 4 rfl).trans (hFx.2 4 rfl))) _)) (by omega) (by omega)
                        refine jx_if_eq (pc_q := 91) (tg := 95) rfl rfl rfl (by decide) (by decide) (fun h473 => ?_) (fun h473 => ?_)
                        · have _q := h473
                          exact absurd h473 (by omega)
                        · have _q := h473
                          refine jx_ld (pc_q := 92) (l_q := L446) (st_q := [.ref 66]) rfl (jl_aloadn gL446_0) ?_
                          refine jx_vr (pc_q := 95) (as := []) (st := []) rfl rfl rfl rfl ⟨rfl, rfl, Nat.le_of_ble_eq_true rfl⟩ rfl rfl (c_openLine (dd := d) (hd := by omega) (hW := hW452)  (ln := ln2_364) (e_ln := show G448 9 = ln2_364 from ((hF453.1 9 rfl).trans (e374))) (le := A 4 (ln2_364).toNat) (e_le := show A449 4 (ln2_364).toNat = A 4 (ln2_364).toNat from (congrFun ((hF453.2 4 rfl).trans ((hF369.2 4 rfl).trans (hFx.2 4 rfl))) _)) (lf := A 3 (ln2_364).toNat) (e_lf := show A449 3 (ln2_364).toNat = A 3 (ln2_364).toNat from (congrFun ((hF453.2 3 rfl).trans ((hF369.2 3 rfl).trans (hFx.2 3 rfl))) _))    (p_0 := by omega)) (fun o V_q hq => ?_)
                          obtain ⟨G474, A475, at2_476, tk2_477, op2_478, rfl, rfl, hW479, hF480, e481, e482, e483, p484, p485, p486, p487, -⟩ := hq
                          have hF489 := Fr_tr hF457 hF480 (Fr_sub (by decide)) (Fr_sub (by decide))
                          have hP490 := Pf_f hP458 hF480 (by decide)
                          have hS491 := Fx_f hS459 hF480 (by decide)
                          have hV492 := Fx_f hV460 hF480 (by decide)
                          have sf493 : wD A475 (sy) (sy1) := wD_fx (Sg_fr (sb := sy1) hF480 (by decide)) (by omega) sf461
                          have sf494 : DS A475 (vi) (vi1) (sy) (sy1) := DS_ext (hF480.2 14 rfl) sf462
                          have sf495 : wD A475 (sy1) (sy2_365) := wD_fx (Sg_fr (sb := sy2_365) hF480 (by decide)) (by omega) sf463
                          have sf496 : DS A475 (vi1) (vi2_367) (sy1) (sy2_365) := DS_ext (hF480.2 14 rfl) sf464
                          have ec497 : ecn A475 (G474 31) = ec := (ecn_f (hF480.2 15 rfl) (hF480.1 31 rfl)).trans ec465
                          have bat2_476 : (0 : Int) ≤ at2_476 ∧ at2_476 ≤ 3002 := e481 ▸ hW479.1 10
                          have ztk2_477 := tz_b tk2_477
                          have btk2_477 : (0 : Int) ≤ tk2_477 ∧ tk2_477 ≤ 5 := e482 ▸ hW479.1 11
                          have bop2_478 : (-2147483648 : Int) ≤ op2_478 ∧ op2_478 ≤ 2147483647 := e483 ▸ hW479.1 15
                          refine .inl ⟨rfl, ?_⟩
                          have pz498 : (A 3 (ln2_364).toNat) + tz tk2_477 ≤ at2_476 := by omega
                          refine jx_go (tg := 27) rfl rfl ?_
                          have z499 := tz_f (tk2_477)
                          exact ih27 _ (by omega) L446 G474 A475 (((dc + sy2_365) - sy1)) (ln2_364) (at2_476) (tk2_477) (fk2_451) (op2_478) (sy2_365) (na2_366) (vi2_367) (A 4 (ln2_364).toNat) rfl gL446_0 gL446_1 gL446_2 gL446_3 gL446_4 hW479 hF489 hP490 hS491 hV492 (((hF480.1 9 rfl).trans ((hF453.1 9 rfl).trans (e374)))) ((e481)) ((e482)) (((hF480.1 16 rfl).trans (e455))) ((e483)) (((hF480.1 19 rfl).trans ((hF453.1 19 rfl).trans (e375)))) (((hF480.1 28 rfl).trans ((hF453.1 28 rfl).trans (e376)))) (((hF480.1 29 rfl).trans ((hF453.1 29 rfl).trans (e377)))) ((congrFun ((hF480.2 4 rfl).trans ((hF453.2 4 rfl).trans ((hF369.2 4 rfl).trans (hFx.2 4 rfl)))) _)) (((hF480.1 31 rfl).trans ((hF453.1 31 rfl).trans ((hF369.1 31 rfl).trans (fx_31))))) (ec497) (by omega) (by omega) (by omega) (by omega) (by omega) (by omega) (by omega) (by omega) (by omega) (by omega) (by omega) (by omega) (by omega) ((wD_tr sf493 sf495)) ((DS_app sf494 sf496 (by omega) (by omega)))
                      · have _q : True := trivial
                        refine jx_if_eq (pc_q := 91) (tg := 95) rfl rfl rfl (by decide) (by decide) (fun h500 => ?_) (fun h500 => ?_)
                        · have _q := h500
                          refine jx_go (tg := 27) rfl rfl ?_
                          refine jx_ld (pc_q := 28) (l_q := L446) (st_q := [.ref 66]) rfl (jl_aloadn gL446_0) ?_
                          refine jx_vr (pc_q := 31) (as := []) (st := []) rfl rfl rfl rfl ⟨rfl, rfl, Nat.le_of_ble_eq_true rfl⟩ rfl rfl (c_bad (dd := d) (hd := by omega) (hW := hW452)  (fk := fk2_451) (e_fk := show G448 16 = fk2_451 from (e455))    ) (fun o V_q hq => ?_)
                          obtain ⟨r501, rfl, rfl, b502, q503⟩ := hq
                          refine .inr ⟨_, rfl, ?_⟩
                          rcases q503 with ⟨rfl, a504⟩ | ⟨rfl, a505⟩
                          · have _q : True := trivial
                            refine jx_if_ne (pc_q := 34) (tg := 98) rfl rfl rfl (by decide) (by decide) (fun h506 => ?_) (fun h506 => ?_)
                            · have _q := h506
                              refine jx_ld (pc_q := 99) (l_q := L446) (st_q := [.ref 66]) rfl (jl_aloadn gL446_0) ?_
                              refine jx_vr (pc_q := 102) (as := []) (st := []) rfl rfl rfl rfl ⟨rfl, rfl, Nat.le_of_ble_eq_true rfl⟩ rfl rfl (c_bad (dd := d) (hd := by omega) (hW := hW452)  (fk := fk2_451) (e_fk := show G448 16 = fk2_451 from (e455))    ) (fun o V_q hq => ?_)
                              obtain ⟨r507, rfl, rfl, b508, q509⟩ := hq
                              refine .inr ⟨_, rfl, ?_⟩
                              rcases q509 with ⟨rfl, a510⟩ | ⟨rfl, a511⟩
                              · have _q : True := trivial
                                refine jx_if_eq (pc_q := 105) (tg := 109) rfl rfl rfl (by decide) (by decide) (fun h512 => ?_) (fun h512 => ?_)
                                · have _q := h512
                                  exact absurd h512 (by omega)
                                · have _q := h512
                                  refine jx_ar (pc_q := 106) (st_q := [.int (i32 (0))]) rfl rfl rfl rfl ?_
                                  refine jx_go (tg := 114) rfl rfl ?_
                                  refine jx_ld (pc_q := 116) (l_q := jSto1 L446 5 (.int (i32 (0)))) (st_q := []) rfl rfl ?_
                                  obtain ⟨L513, eL513⟩ : ∃ q, q = jSto1 L446 5 (.int (i32 (0))) := ⟨_, rfl⟩
                                  rw [← eL513]
                                  have gL513_0 : jGet L513 0 = some (.ref 66) := eL513 ▸ jg_ne (by decide) gL446_0 rfl
                                  have gL513_1 : jGet L513 1 = some (.int (i32 (lv))) := eL513 ▸ jg_ne (by decide) gL446_1 rfl
                                  have gL513_2 : jGet L513 2 = some (.int (i32 (vi))) := eL513 ▸ jg_ne (by decide) gL446_2 rfl
                                  have gL513_3 : jGet L513 3 = some (.int (i32 (sy))) := eL513 ▸ jg_ne (by decide) gL446_3 rfl
                                  have gL513_4 : jGet L513 4 = some (.int (i32 (((dc + sy2_365) - sy1)))) := eL513 ▸ jg_ne (by decide) gL446_4 rfl
                                  have gL513_5 : jGet L513 5 = some (.int (i32 (0))) := eL513 ▸ jg_eq
                                  refine jx_ld (pc_q := 117) (l_q := L513) (st_q := [.ref 66]) rfl (jl_aloadn gL513_0) ?_
                                  refine jx_vr (pc_q := 120) (as := []) (st := []) rfl rfl rfl rfl ⟨rfl, rfl, Nat.le_of_ble_eq_true rfl⟩ rfl rfl (c_bad (dd := d) (hd := by omega) (hW := hW452)  (fk := fk2_451) (e_fk := show G448 16 = fk2_451 from (e455))    ) (fun o V_q hq => ?_)
                                  obtain ⟨r514, rfl, rfl, b515, q516⟩ := hq
                                  refine .inr ⟨_, rfl, ?_⟩
                                  rcases q516 with ⟨rfl, a517⟩ | ⟨rfl, a518⟩
                                  · have _q : True := trivial
                                    refine jx_if_ne (pc_q := 123) (tg := 140) rfl rfl rfl (by decide) (by decide) (fun h519 => ?_) (fun h519 => ?_)
                                    · have _q := h519
                                      refine jx_ld (pc_q := 141) (l_q := L513) (st_q := [.ref 66]) rfl (jl_aloadn gL513_0) ?_
                                      refine jx_ld (pc_q := 142) (l_q := L513) (st_q := [.int (i32 (vi)), .ref 66]) rfl (jl_iloadn gL513_2) ?_
                                      refine jr_put (pc_q := 145) (i := 29) (z := vi) rfl rfl (by decide) rfl rfl rfl rfl rfl rfl ?_
                                      have hW520 : Wk (uG G448 29 (vi)) A449 := Wk_g hW452 (show (0 : Int) ≤ vi by omega) (show vi ≤ (202 : Int) by omega)
                                      have hF521 := Fr_g (z := vi) (i := 29) hF457 (by decide)
                                      have ec522 : ecn A449 ((uG G448 29 (vi)) 31) = ec := ec465
                                      refine jx_ld (pc_q := 147) (l_q := L513) (st_q := [.int (i32 (0))]) rfl (jl_iload gL513_5) ?_
                                      refine jx_rt (v := some (.int (i32 (0)))) rfl rfl rfl rfl rfl rfl ?_
                                      exact ⟨_, _, _, ln2_364, at2_362, fk2_451, nd, sy2_365, na2_366, vi, A 3 (ln2_364).toNat, ec, rfl, rfl, hW520, hF521, hP458, hS459, hV460, by omega, ((hF453.1 9 rfl).trans (e374)), ((hF453.1 10 rfl).trans (e372)), (e455), ((hF453.1 31 rfl).trans ((hF369.1 31 rfl).trans (fx_31))), ((hF453.1 19 rfl).trans (e375)), ((hF453.1 28 rfl).trans (e376)), rfl, (congrFun ((hF453.2 3 rfl).trans ((hF369.2 3 rfl).trans (hFx.2 3 rfl))) _), ec522, by omega, by omega, by omega, by omega, by omega, by omega, by omega, by omega, by omega, by first | exact Or.inl (⟨by omega, by omega⟩)⟩
                                    · have _q := h519
                                      exact absurd h519 (by omega)
                                  · have _q : True := trivial
                                    exfalso
                                    omega
                              · have _q : True := trivial
                                exfalso
                                omega
                            · have _q := h506
                              exact absurd h506 (by omega)
                          · have _q : True := trivial
                            exfalso
                            omega
                        · have _q := h500
                          exact absurd h500 (by omega)
                · have _q : True := trivial
                  refine jx_if_eq (pc_q := 61) (tg := 98) rfl rfl rfl (by decide) (by decide) (fun h523 => ?_) (fun h523 => ?_)
                  · have _q := h523
                    refine jx_ld (pc_q := 99) (l_q := L) (st_q := [.ref 66]) rfl (jl_aloadn gL_0) ?_
                    refine jx_vr (pc_q := 102) (as := []) (st := []) rfl rfl rfl rfl ⟨rfl, rfl, Nat.le_of_ble_eq_true rfl⟩ rfl rfl (c_bad (dd := d) (hd := by omega) (hW := hWx)  (fk := fk1) (e_fk := show Gx 16 = fk1 from (ex_fk1))    ) (fun o V_q hq => ?_)
                    obtain ⟨r524, rfl, rfl, b525, q526⟩ := hq
                    refine .inr ⟨_, rfl, ?_⟩
                    rcases q526 with ⟨rfl, a527⟩ | ⟨rfl, a528⟩
                    · have _q : True := trivial
                      exfalso
                      omega
                    · have _q : True := trivial
                      refine jx_if_eq (pc_q := 105) (tg := 109) rfl rfl rfl (by decide) (by decide) (fun h529 => ?_) (fun h529 => ?_)
                      · have _q := h529
                        refine jx_ld (pc_q := 110) (l_q := L) (st_q := [.ref 66]) rfl (jl_aloadn gL_0) ?_
                        refine jx_ld (pc_q := 111) (l_q := L) (st_q := [.int (i32 (lv)), .ref 66]) rfl (jl_iloadn gL_1) ?_
                        refine jx_vr (pc_q := 114) (as := [.int (i32 (lv))]) (st := []) rfl rfl rfl rfl ⟨rfl, rfl, Nat.le_of_ble_eq_true rfl⟩ rfl rfl (c_readStatement_w (dd := d) (hP := hP) (hd := by omega) (hW := hWx) (lv := lv) (ln := ln1) (e_ln := show Gx 9 = ln1 from (ex_ln1)) (li := li) (e_li := show Gx 3 = li from ((hFx.1 3 rfl).trans (e_li))) (at0 := at1) (e_at0 := show Gx 10 = at1 from (ex_at1)) (fk := fk1) (e_fk := show Gx 16 = fk1 from (ex_fk1)) (nd := nd) (e_nd := show Gx 31 = nd from (fx_31)) (sy := sy1) (e_sy := show Gx 19 = sy1 from (ex_sy1)) (na := na1) (e_na := show Gx 28 = na1 from (ex_na1)) (vi := vi1) (e_vi := show Gx 29 = vi1 from (ex_vi1)) (le := le1) (e_le := show Ax 4 (ln1).toNat = le1 from (ex_le1)) (op0 := op1) (e_op0 := show Gx 15 = op1 from (ex_op1)) (tk0 := tk1) (e_tk0 := show Gx 11 = tk1 from (ex_tk1)) (ec := ec) (e_ec := show ecn Ax (Gx 31) = ec from fx_900) (i_LT := (LT_ext ((hFx.1 3 rfl)) ((hFx.2 3 rfl)) ((hFx.2 4 rfl)) i_LT)) (i_SV := (SV_dec (s0 := sy) (s1 := sy1) i_SV e_vi (show Gx 29 = vi1 from (ex_vi1)) (by omega) hVx iv_13 (by omega))) (i_PQ := (PQ_dec (s0 := sy) (s1 := sy1) i_PQ hSx (by omega) (by omega) (hFx.2 29 rfl) (hFx.2 30 rfl) iv_12 hvb)) (hvb := (VB_d (s0 := sy) (s1 := sy1) hvb (by omega))) (h_lv := ⟨(Int.le_trans (by decide : (-2147483648 : Int) ≤ -2147483648) h_lv.1), (Int.le_trans h_lv.2 (by decide : (2147483647 : Int) ≤ 2147483647))⟩)  (p_0 := by omega) (p_1 := by omega) (p_2 := by omega) (p_3 := by omega) (p_4 := by omega) (p_5 := by omega) (p_6 := by omega) (p_7 := by omega) (p_8 := by omega) (p_9 := by omega)) (fun o V_q hq => ?_)
                        obtain ⟨G530, A531, r532, ln2_533, at2_534, fk2_535, nd2_536, sy2_537, na2_538, vi2_539, lf2_540, ec2_541, rfl, rfl, hW542, hF543, hQ544, hQ545, hQ546, b547, e548, e549, e550, e551, e552, e553, e554, e555, e556, p557, p558, p559, p560, p561, p562, p563, p564, p565, p566, q567⟩ := hq
                        have hF568 := Fr_tr hFx hF543 (Fr_sub (by decide)) (Fr_sub (by decide))
                        have hP569 := Pf_tr hPx hQ544 (by omega)
                        have hS570 := Fx_tr hSx hQ545 (by omega)
                        have hV571 := Fx_tr hVx hQ546 (by omega)
                        have sf572 : wD A531 (sy) (sy1) := wD_fx hQ545 (by omega) iv_12
                        have sf573 : DS A531 (vi) (vi1) (sy) (sy1) := DS_fx hQ546 (by omega) iv_13
                        have bln2_533 : (0 : Int) ≤ ln2_533 ∧ ln2_533 ≤ 3000 := e548 ▸ hW542.1 9
                        have bat2_534 : (0 : Int) ≤ at2_534 ∧ at2_534 ≤ 3002 := e549 ▸ hW542.1 10
                        have bfk2_535 : (0 : Int) ≤ fk2_535 ∧ fk2_535 ≤ 6 := e550 ▸ hW542.1 16
                        have bnd2_536 : (0 : Int) ≤ nd2_536 ∧ nd2_536 ≤ 6999 := e551 ▸ hW542.1 31
                        have bsy2_537 : (0 : Int) ≤ sy2_537 ∧ sy2_537 ≤ 202 := e552 ▸ hW542.1 19
                        have bna2_538 : (0 : Int) ≤ na2_538 ∧ na2_538 ≤ 200 := e553 ▸ hW542.1 28
                        have bvi2_539 : (0 : Int) ≤ vi2_539 ∧ vi2_539 ≤ 202 := e554 ▸ hW542.1 29
                        have blf2_540 : (0 : Int) ≤ lf2_540 ∧ lf2_540 ≤ 3000 := e555 ▸ hW542.2 3 _
                        refine .inr ⟨_, rfl, ?_⟩
                        rcases q567 with ⟨a574, a575⟩ | ⟨a576, a577, a578, a579, a580, a581, a582, a583, a584, a585, a586⟩
                        · have _q : True := trivial
                          refine jx_ld (pc_q := 116) (l_q := jSto1 L 5 (.int (i32 (r532)))) (st_q := []) rfl rfl ?_
                          obtain ⟨L587, eL587⟩ : ∃ q, q = jSto1 L 5 (.int (i32 (r532))) := ⟨_, rfl⟩
                          rw [← eL587]
                          have gL587_0 : jGet L587 0 = some (.ref 66) := eL587 ▸ jg_ne (by decide) gL_0 rfl
                          have gL587_1 : jGet L587 1 = some (.int (i32 (lv))) := eL587 ▸ jg_ne (by decide) gL_1 rfl
                          have gL587_2 : jGet L587 2 = some (.int (i32 (vi))) := eL587 ▸ jg_ne (by decide) gL_2 rfl
                          have gL587_3 : jGet L587 3 = some (.int (i32 (sy))) := eL587 ▸ jg_ne (by decide) gL_3 rfl
                          have gL587_4 : jGet L587 4 = some (.int (i32 (dc))) := eL587 ▸ jg_ne (by decide) gL_4 rfl
                          have gL587_5 : jGet L587 5 = some (.int (i32 (r532))) := eL587 ▸ jg_eq
                          refine jx_ld (pc_q := 117) (l_q := L587) (st_q := [.ref 66]) rfl (jl_aloadn gL587_0) ?_
                          refine jx_vr (pc_q := 120) (as := []) (st := []) rfl rfl rfl rfl ⟨rfl, rfl, Nat.le_of_ble_eq_true rfl⟩ rfl rfl (c_bad (dd := d) (hd := by omega) (hW := hW542)  (fk := fk2_535) (e_fk := show G530 16 = fk2_535 from (e550))    ) (fun o V_q hq => ?_)
                          obtain ⟨r588, rfl, rfl, b589, q590⟩ := hq
                          refine .inr ⟨_, rfl, ?_⟩
                          rcases q590 with ⟨rfl, a591⟩ | ⟨rfl, a592⟩
                          · have _q : True := trivial
                            refine jx_if_ne (pc_q := 123) (tg := 140) rfl rfl rfl (by decide) (by decide) (fun h593 => ?_) (fun h593 => ?_)
                            · have _q := h593
                              refine jx_ld (pc_q := 141) (l_q := L587) (st_q := [.ref 66]) rfl (jl_aloadn gL587_0) ?_
                              refine jx_ld (pc_q := 142) (l_q := L587) (st_q := [.int (i32 (vi)), .ref 66]) rfl (jl_iloadn gL587_2) ?_
                              refine jr_put (pc_q := 145) (i := 29) (z := vi) rfl rfl (by decide) rfl rfl rfl rfl rfl rfl ?_
                              have hW594 : Wk (uG G530 29 (vi)) A531 := Wk_g hW542 (show (0 : Int) ≤ vi by omega) (show vi ≤ (202 : Int) by omega)
                              have hF595 := Fr_g (z := vi) (i := 29) hF568 (by decide)
                              have ec596 : ecn A531 ((uG G530 29 (vi)) 31) = ec2_541 := e556
                              refine jx_ld (pc_q := 147) (l_q := L587) (st_q := [.int (i32 (r532))]) rfl (jl_iload gL587_5) ?_
                              refine jx_rt (v := some (.int (i32 (r532)))) rfl rfl rfl rfl rfl rfl ?_
                              exact ⟨_, _, _, ln2_533, at2_534, fk2_535, nd2_536, sy2_537, na2_538, vi, lf2_540, ec2_541, rfl, rfl, hW594, hF595, hP569, hS570, hV571, by omega, (e548), (e549), (e550), (e551), (e552), (e553), rfl, (e555), ec596, by omega, by omega, by omega, by omega, by omega, by omega, by omega, by omega, by omega, by first | exact Or.inl (⟨by omega, by omega⟩)⟩
                            · have _q := h593
                              exact absurd h593 (by omega)
                          · have _q : True := trivial
                            exfalso
                            omega
                        · have _q : True := trivial
                          refine jx_ld (pc_q := 116) (l_q := jSto1 L 5 (.int (i32 (r532)))) (st_q := []) rfl rfl ?_
                          obtain ⟨L597, eL597⟩ : ∃ q, q = jSto1 L 5 (.int (i32 (r532))) := ⟨_, rfl⟩
                          rw [← eL597]
                          have gL597_0 : jGet L597 0 = some (.ref 66) := eL597 ▸ jg_ne (by decide) gL_0 rfl
                          have gL597_1 : jGet L597 1 = some (.int (i32 (lv))) := eL597 ▸ jg_ne (by decide) gL_1 rfl
                          have gL597_2 : jGet L597 2 = some (.int (i32 (vi))) := eL597 ▸ jg_ne (by decide) gL_2 rfl
                          have gL597_3 : jGet L597 3 = some (.int (i32 (sy))) := eL597 ▸ jg_ne (by decide) gL_3 rfl
                          have gL597_4 : jGet L597 4 = some (.int (i32 (dc))) := eL597 ▸ jg_ne (by decide) gL_4 rfl
                          have gL597_5 : jGet L597 5 = some (.int (i32 (r532))) := eL597 ▸ jg_eq
                          refine jx_ld (pc_q := 117) (l_q := L597) (st_q := [.ref 66]) rfl (jl_aloadn gL597_0) ?_
                          refine jx_vr (pc_q := 120) (as := []) (st := []) rfl rfl rfl rfl ⟨rfl, rfl, Nat.le_of_ble_eq_true rfl⟩ rfl rfl (c_bad (dd := d) (hd := by omega) (hW := hW542)  (fk := fk2_535) (e_fk := show G530 16 = fk2_535 from (e550))    ) (fun o V_q hq => ?_)
                          obtain ⟨r598, rfl, rfl, b599, q600⟩ := hq
                          refine .inr ⟨_, rfl, ?_⟩
                          rcases q600 with ⟨rfl, a601⟩ | ⟨rfl, a602⟩
                          · have _q : True := trivial
                            exfalso
                            omega
                          · have _q : True := trivial
                            refine jx_if_ne (pc_q := 123) (tg := 140) rfl rfl rfl (by decide) (by decide) (fun h603 => ?_) (fun h603 => ?_)
                            · have _q := h603
                              exact absurd h603 (by omega)
                            · have _q := h603
                              refine jx_ld (pc_q := 124) (l_q := L597) (st_q := [.ref 66]) rfl (jl_aloadn gL597_0) ?_
                              refine jr_get (pc_q := 127) (i := 40) (v := .ref 90) rfl rfl (by decide) rfl rfl ?_
                              refine jx_ld (pc_q := 129) (l_q := L597) (st_q := [.int (i32 (r532)), .ref 90]) rfl (jl_iload gL597_5) ?_
                              refine jx_ld (pc_q := 130) (l_q := L597) (st_q := [.int (i32 (sy)), .int (i32 (r532)), .ref 90]) rfl (jl_iloadn gL597_3) ?_
                              refine jr_st (pc_q := 131) (i := 23) (m := 7000) (z := r532) (y := sy) rfl (by decide) rfl (by decide) (by omega) (by omega) rfl ?_
                              have hW605 : Wk G530 (uA A531 23 (r532).toNat (sy)) := Wk_a hW542 (show (-2147483648 : Int) ≤ sy by omega) (show sy ≤ (2147483647 : Int) by omega)
                              have hF606 := Fr_a (z := sy) (k := 23) (n := (r532).toNat) hF568 (by decide)
                              obtain ⟨A604, eA604⟩ : ∃ q, q = uA A531 23 (r532).toNat (sy) := ⟨_, rfl⟩
                              rw [← eA604]
                              rw [← eA604] at hW605 hF606
                              have q607 : A604 23 (r532).toNat = sy := by rw [eA604]; exact uA_eq
                              have hP608 : Pf nd A A604 := eA604 ▸ Pf_a hP569 (z := r532) (by omega) (by omega)
                              have hS609 : Fx sr (sy) A A604 := eA604 ▸ Fx_n hS570 rfl
                              have hV610 : Fx [14] (vi) A A604 := eA604 ▸ Fx_n hV571 rfl
                              have sf611 : wD A604 (sy) (sy1) := wD_fx (Sg_ne (sb := sy1) eA604 rfl) (by omega) sf572
                              have sf612 : DS A604 (vi) (vi1) (sy) (sy1) := DS_ext ((congrFun eA604 14).trans (uA_ne (by decide))) sf573
                              have sf613 : NX A604 (r532) := NX_r eA604 (by decide) a584
                              have sf614 : NdO A604 (nd) (nd2_536) (sy1) (r532) := NdO_2 eA604 (by decide) (by omega) (by omega) a586
                              have ec615 : ecn A604 (G530 31) = ec2_541 := (ecn_e ((congrFun eA604 15).trans (uA_ne (by decide)))).trans e556
                              refine jx_ld (pc_q := 132) (l_q := L597) (st_q := [.ref 66]) rfl (jl_aloadn gL597_0) ?_
                              refine jr_get (pc_q := 135) (i := 41) (v := .ref 91) rfl rfl (by decide) rfl rfl ?_
                              refine jx_ld (pc_q := 137) (l_q := L597) (st_q := [.int (i32 (r532)), .ref 91]) rfl (jl_iload gL597_5) ?_
                              refine jx_ld (pc_q := 139) (l_q := L597) (st_q := [.int (i32 (dc)), .int (i32 (r532)), .ref 91]) rfl (jl_iload gL597_4) ?_
                              refine jr_st (pc_q := 140) (i := 24) (m := 7000) (z := r532) (y := dc) rfl (by decide) rfl (by decide) (by omega) (by omega) rfl ?_
                              have hW617 : Wk G530 (uA A604 24 (r532).toNat (dc)) := Wk_a hW605 (show (-2147483648 : Int) ≤ dc by omega) (show dc ≤ (2147483647 : Int) by omega)
                              have hF618 := Fr_a (z := dc) (k := 24) (n := (r532).toNat) hF606 (by decide)
                              obtain ⟨A616, eA616⟩ : ∃ q, q = uA A604 24 (r532).toNat (dc) := ⟨_, rfl⟩
                              rw [← eA616]
                              rw [← eA616] at hW617 hF618
                              have q619 : A616 24 (r532).toNat = dc := by rw [eA616]; exact uA_eq
                              have hP620 : Pf nd A A616 := eA616 ▸ Pf_a hP608 (z := r532) (by omega) (by omega)
                              have hS621 : Fx sr (sy) A A616 := eA616 ▸ Fx_n hS609 rfl
                              have hV622 : Fx [14] (vi) A A616 := eA616 ▸ Fx_n hV610 rfl
                              have sf623 : wD A616 (sy) (sy1) := wD_fx (Sg_ne (sb := sy1) eA616 rfl) (by omega) sf611
                              have sf624 : DS A616 (vi) (vi1) (sy) (sy1) := DS_ext ((congrFun eA616 14).trans (uA_ne (by decide))) sf612
                              have sf625 : wP A616 (sy2_537) pb (k + 1) (Vs) (r532) (nd) (nd2_536) (sy) (sy2_537) := wP_mk eA604 eA616 (by omega) (by omega) (by omega) (by omega) (by omega) (by omega) (by omega) (by omega) sf572 a583
                              have sf626 : NX A616 (r532) := NX_r eA616 (by decide) sf613
                              have sf627 : NdO A616 (nd) (nd2_536) (sy1) (r532) := NdO_2 eA616 (by decide) (by omega) (by omega) sf614
                              have ec628 : ecn A616 (G530 31) = ec2_541 := (ecn_e ((congrFun eA616 15).trans (uA_ne (by decide)))).trans ec615
                              refine jx_ld (pc_q := 141) (l_q := L597) (st_q := [.ref 66]) rfl (jl_aloadn gL597_0) ?_
                              refine jx_ld (pc_q := 142) (l_q := L597) (st_q := [.int (i32 (vi)), .ref 66]) rfl (jl_iloadn gL597_2) ?_
                              refine jr_put (pc_q := 145) (i := 29) (z := vi) rfl rfl (by decide) rfl rfl rfl rfl rfl rfl ?_
                              have hW629 : Wk (uG G530 29 (vi)) A616 := Wk_g hW617 (show (0 : Int) ≤ vi by omega) (show vi ≤ (202 : Int) by omega)
                              have hF630 := Fr_g (z := vi) (i := 29) hF618 (by decide)
                              have ec631 : ecn A616 ((uG G530 29 (vi)) 31) = ec2_541 := ec628
                              refine jx_ld (pc_q := 147) (l_q := L597) (st_q := [.int (i32 (r532))]) rfl (jl_iload gL597_5) ?_
                              refine jx_rt (v := some (.int (i32 (r532)))) rfl rfl rfl rfl rfl rfl ?_
                              exact ⟨_, _, _, ln2_533, at2_534, fk2_535, nd2_536, sy2_537, na2_538, vi, lf2_540, ec2_541, rfl, rfl, hW629, hF630, hP620, hS621, hV622, by omega, (e548), (e549), (e550), (e551), (e552), (e553), rfl, (congrFun (((congrFun eA616 3).trans (uA_ne (by decide))).trans ((congrFun eA604 3).trans (uA_ne (by decide)))) _).trans (e555), ec631, by omega, by omega, by omega, by omega, by omega, by omega, by omega, by omega, by omega, by first | exact Or.inr ((⟨by omega, by omega, by omega, by omega, by omega, by omega, sf625, sf626, by omega, (NdM_w (NdM_o sf627 (show A616 23 (r532).toNat = sy from (congrFun ((congrFun eA616 23).trans (uA_ne (by decide))) _).trans (q607)) (show A616 24 (r532).toNat = dc from (q619)) (by omega) (fun q3 => by have := wP_k20 sf625; omega)) (by omega) (by omega) (by omega))⟩))⟩
                      · have _q := h529
                        exact absurd h529 (by omega)
                  · have _q := h523
                    exact absurd h523 (by omega)
set_option maxRecDepth 20000 in
set_option maxHeartbeats 4000000 in
theorem c_readProcess_s_w {X : jX} {k : Nat} (hP : RPw X k) {dd : Nat} {Vs : Nat → Prop} {sb pb : Int} (hvb : VB Vs sb) {c0 c1 : jC} {G : Nat → Int} {A : Nat → Nat → Int} {T : jH} {lv : Int} {at0 : Int} {ln li fk nd sy na vi lf ac ec : Int} (hd : 8 * (k + 1) + 80 ≤ dd) (hW : Wk G A) (e_ln : G 9 = ln) (e_li : G 3 = li) (e_fk : G 16 = fk) (e_nd : G 31 = nd) (e_sy : G 19 = sy) (e_na : G 28 = na) (e_vi : G 29 = vi) (e_lf : A 3 (ln).toNat = lf) (e_ac : G 10 = ac) (e_ec : ecn A (G 31) = ec) (i_LT : LT G A) (i_SV : SV Vs sb G A) (i_PQ : PQ Vs sb pb G A) (h_lv : (-2147483648 : Int) ≤ lv ∧ lv ≤ 2147483647) (p_0 : 0 ≤ lv ∧ lv ≤ 40) (p_1 : 18 - lv ≤ ((k + 1 : Nat) : Int)) (p_2 : fk = 0) (p_3 : ln ≤ li) (p_4 : at0 < lf ∨ li ≤ ln) (p_5 : nd ≤ 2 * at0 + 32) (p_6 : sy ≤ na + 2) (p_7 : vi ≤ sy) (p_8 : at0 ≤ ac) (p_9 : -1 ≤ at0) (p_10 : sb ≤ sy) : wk X dd 292 [.ref 66, .int (i32 lv)] (rV c0 c1 G A T) (fun o V_q => ∃ (G_q : Nat → Int) (A_q : Nat → Nat → Int) (r : Int) (ln2 : Int) (at2 : Int) (fk2 : Int) (nd2 : Int) (sy2 : Int) (na2 : Int) (vi2 : Int) (lf2 : Int) (ec2 : Int), V_q = rV c0 c1 G_q A_q T ∧ o = .inl (some (.int (i32 r))) ∧ Wk G_q A_q ∧ Fr [9, 10, 11, 12, 13, 14, 15, 16, 17, 18, 19, 28, 29, 31] [6, 7, 8, 9, 10, 11, 12, 14, 15, 16, 17, 18, 19, 20, 21, 22, 23, 24, 28] G A G_q A_q ∧ Pf nd A A_q ∧ Fx sr (sy) A A_q ∧ Fx [14] (vi) A A_q ∧ ((-2147483648 : Int) ≤ r ∧ r ≤ 2147483647) ∧ G_q 9 = ln2 ∧ G_q 10 = at2 ∧ G_q 16 = fk2 ∧ G_q 31 = nd2 ∧ G_q 19 = sy2 ∧ G_q 28 = na2 ∧ G_q 29 = vi2 ∧ A_q 3 (ln2).toNat = lf2 ∧ ecn A_q (G_q 31) = ec2 ∧ (at0 ≤ at2) ∧ (nd ≤ nd2) ∧ (sy ≤ sy2) ∧ (sy2 ≤ na2 + 2) ∧ (vi2 = vi) ∧ (0 ≤ r) ∧ (r ≤ 6999) ∧ (ln ≤ ln2) ∧ (ln2 ≤ li) ∧ (((1 ≤ fk2) ∧ (nd2 - nd ≤ 2 * at2 - 2 * at0 + 12)) ∨ ((fk2 = 0) ∧ (ln < ln2) ∧ (nd2 - nd ≤ 2 * at2 - 2 * at0) ∧ (at2 < lf2 ∨ li ≤ ln2) ∧ (nd ≤ r) ∧ (r < nd2) ∧ (wP A_q (sy2) pb (k + 1) (Vs) (r) (nd) (nd2) (sy) (sy2)) ∧ (NX A_q (r)) ∧ (nd2 - nd + 5 * (ec2 - ec) ≤ 2 * at2 - 2 * at0) ∧ (NdM A_q (nd) (nd2) (sy))))) := by
  obtain ⟨d, rfl⟩ : ∃ d, dd = d + 1 := ⟨dd - 1, by omega⟩
  refine wk_of (e := jm292) rfl (Nat.le_of_ble_eq_true rfl) ?_
  show wj X d jm292 (0, [(0, .ref 66), (1, .int (i32 (lv)))], [], rV c0 c1 G A T) _
  have hF0 : Fr [9, 10, 11, 12, 13, 14, 15, 16, 17, 18, 19, 28, 29, 31] [6, 7, 8, 9, 10, 11, 12, 14, 15, 16, 17, 18, 19, 20, 21, 22, 23, 24, 28] G A G A := Fr_rf
  have hP0 : Pf nd A A := Pf_rf
  have hS0 : Fx sr (sy) A A := Fx_rf
  have hV0 : Fx [14] (vi) A A := Fx_rf
  have b_ln : (0 : Int) ≤ ln ∧ ln ≤ 3000 := e_ln ▸ hW.1 9
  have b_li : (0 : Int) ≤ li ∧ li ≤ 3000 := e_li ▸ hW.1 3
  have b_fk : (0 : Int) ≤ fk ∧ fk ≤ 6 := e_fk ▸ hW.1 16
  have b_nd : (0 : Int) ≤ nd ∧ nd ≤ 6999 := e_nd ▸ hW.1 31
  have b_sy : (0 : Int) ≤ sy ∧ sy ≤ 202 := e_sy ▸ hW.1 19
  have b_na : (0 : Int) ≤ na ∧ na ≤ 200 := e_na ▸ hW.1 28
  have b_vi : (0 : Int) ≤ vi ∧ vi ≤ 202 := e_vi ▸ hW.1 29
  have b_lf : (0 : Int) ≤ lf ∧ lf ≤ 3000 := e_lf ▸ hW.2 3 _
  have b_ac : (0 : Int) ≤ ac ∧ ac ≤ 3002 := e_ac ▸ hW.1 10
  refine jx_ld (pc_q := 1) (l_q := [(0, .ref 66), (1, .int (i32 (lv)))]) (st_q := [.ref 66]) rfl (jl_aloadn rfl) ?_
  refine jx_ld (pc_q := 2) (l_q := [(0, .ref 66), (1, .int (i32 (lv)))]) (st_q := [.int (i32 (lv)), .ref 66]) rfl (jl_iloadn rfl) ?_
  have b632 : (-1 : Int) ≤ A 5 (ln).toNat ∧ A 5 (ln).toNat ≤ 15 := hW.2 5 _
  refine jx_vr (pc_q := 5) (as := [.int (i32 (lv))]) (st := []) rfl rfl rfl rfl ⟨rfl, rfl, Nat.le_of_ble_eq_true rfl⟩ rfl rfl (c_needLevel (dd := d) (hd := by omega) (hW := hW) (lv := lv) (ln := ln) (e_ln := show G 9 = ln from (e_ln)) (li := li) (e_li := show G 3 = li from (e_li)) (fk := fk) (e_fk := show G 16 = fk from (e_fk)) (ll := A 5 (ln).toNat) (e_ll := show A 5 (ln).toNat = A 5 (ln).toNat from rfl)  (h_lv := ⟨(Int.le_trans (by decide : (-2147483648 : Int) ≤ -2147483648) h_lv.1), (Int.le_trans h_lv.2 (by decide : (2147483647 : Int) ≤ 2147483647))⟩)  ) (fun o V_q hq => ?_)
  obtain ⟨G633, A634, r635, fk2_636, rfl, rfl, hW637, hF638, b639, e640, q641⟩ := hq
  have hF642 := Fr_tr hF0 hF638 (Fr_sub (by decide)) (Fr_sub (by decide))
  have hP643 := Pf_f hP0 hF638 (by decide)
  have hS644 := Fx_f hS0 hF638 (by decide)
  have hV645 := Fx_f hV0 hF638 (by decide)
  have ec646 : ecn A634 (G633 31) = ec := (ecn_f (hF638.2 15 rfl) (hF638.1 31 rfl)).trans e_ec
  have bfk2_636 : (0 : Int) ≤ fk2_636 ∧ fk2_636 ≤ 6 := e640 ▸ hW637.1 16
  refine .inr ⟨_, rfl, ?_⟩
  rcases q641 with ⟨rfl, a647, a648, a649, a650⟩ | ⟨rfl, a651⟩
  · have _q : True := trivial
    have b652 : (0 : Int) ≤ A 4 (ln).toNat ∧ A 4 (ln).toNat ≤ 3000 := hW.2 4 _
    have lt653 : lf < A 4 (ln).toNat := LT_at (LT_ext ((hF638.1 3 rfl)) ((hF638.2 3 rfl)) ((hF638.2 4 rfl)) i_LT) (show G633 3 = li from ((hF638.1 3 rfl).trans (e_li))) (show A634 3 (ln).toNat = lf from (congrFun (hF638.2 3 rfl) _).trans (e_lf)) (show A634 4 (ln).toNat = A 4 (ln).toNat from (congrFun (hF638.2 4 rfl) _)) (by omega) (by omega)
    refine jx_if_ne (pc_q := 8) (tg := 10) rfl rfl rfl (by decide) (by decide) (fun h654 => ?_) (fun h654 => ?_)
    · have _q := h654
      refine jx_ld (pc_q := 11) (l_q := [(0, .ref 66), (1, .int (i32 (lv)))]) (st_q := [.ref 66]) rfl (jl_aloadn rfl) ?_
      refine jr_get (pc_q := 14) (i := 29) (v := .int (i32 (vi))) rfl rfl (by decide) (rFv_eq (by decide) (show G633 29 = vi from ((hF638.1 29 rfl).trans (e_vi)))) rfl ?_
      refine jx_ld (pc_q := 15) (l_q := jSto1 [(0, .ref 66), (1, .int (i32 (lv)))] 2 (.int (i32 (vi)))) (st_q := []) rfl rfl ?_
      obtain ⟨L655, eL655⟩ : ∃ q, q = jSto1 [(0, .ref 66), (1, .int (i32 (lv)))] 2 (.int (i32 (vi))) := ⟨_, rfl⟩
      rw [← eL655]
      have gL655_0 : jGet L655 0 = some (.ref 66) := eL655 ▸ jg_ne (by decide) (rfl : jGet [(0, .ref 66), (1, .int (i32 (lv)))] 0 = some (.ref 66)) rfl
      have gL655_1 : jGet L655 1 = some (.int (i32 (lv))) := eL655 ▸ jg_ne (by decide) (rfl : jGet [(0, .ref 66), (1, .int (i32 (lv)))] 1 = some (.int (i32 (lv)))) rfl
      have gL655_2 : jGet L655 2 = some (.int (i32 (vi))) := eL655 ▸ jg_eq
      refine jx_ld (pc_q := 16) (l_q := L655) (st_q := [.ref 66]) rfl (jl_aloadn gL655_0) ?_
      refine jr_get (pc_q := 19) (i := 19) (v := .int (i32 (sy))) rfl rfl (by decide) (rFv_eq (by decide) (show G633 19 = sy from ((hF638.1 19 rfl).trans (e_sy)))) rfl ?_
      refine jx_ld (pc_q := 20) (l_q := jSto1 L655 3 (.int (i32 (sy)))) (st_q := []) rfl rfl ?_
      obtain ⟨L656, eL656⟩ : ∃ q, q = jSto1 L655 3 (.int (i32 (sy))) := ⟨_, rfl⟩
      rw [← eL656]
      have gL656_0 : jGet L656 0 = some (.ref 66) := eL656 ▸ jg_ne (by decide) gL655_0 rfl
      have gL656_1 : jGet L656 1 = some (.int (i32 (lv))) := eL656 ▸ jg_ne (by decide) gL655_1 rfl
      have gL656_2 : jGet L656 2 = some (.int (i32 (vi))) := eL656 ▸ jg_ne (by decide) gL655_2 rfl
      have gL656_3 : jGet L656 3 = some (.int (i32 (sy))) := eL656 ▸ jg_eq
      refine jx_ar (pc_q := 21) (st_q := [.int (i32 (0))]) rfl rfl rfl rfl ?_
      refine jx_ld (pc_q := 23) (l_q := jSto1 L656 4 (.int (i32 (0)))) (st_q := []) rfl rfl ?_
      obtain ⟨L657, eL657⟩ : ∃ q, q = jSto1 L656 4 (.int (i32 (0))) := ⟨_, rfl⟩
      rw [← eL657]
      have gL657_0 : jGet L657 0 = some (.ref 66) := eL657 ▸ jg_ne (by decide) gL656_0 rfl
      have gL657_1 : jGet L657 1 = some (.int (i32 (lv))) := eL657 ▸ jg_ne (by decide) gL656_1 rfl
      have gL657_2 : jGet L657 2 = some (.int (i32 (vi))) := eL657 ▸ jg_ne (by decide) gL656_2 rfl
      have gL657_3 : jGet L657 3 = some (.int (i32 (sy))) := eL657 ▸ jg_ne (by decide) gL656_3 rfl
      have gL657_4 : jGet L657 4 = some (.int (i32 (0))) := eL657 ▸ jg_eq
      refine jx_ld (pc_q := 24) (l_q := L657) (st_q := [.ref 66]) rfl (jl_aloadn gL657_0) ?_
      refine jx_vr (pc_q := 27) (as := []) (st := []) rfl rfl rfl rfl ⟨rfl, rfl, Nat.le_of_ble_eq_true rfl⟩ rfl rfl (c_openLine (dd := d) (hd := by omega) (hW := hW637)  (ln := ln) (e_ln := show G633 9 = ln from ((hF638.1 9 rfl).trans (e_ln))) (le := A 4 (ln).toNat) (e_le := show A634 4 (ln).toNat = A 4 (ln).toNat from (congrFun (hF638.2 4 rfl) _)) (lf := lf) (e_lf := show A634 3 (ln).toNat = lf from (congrFun (hF638.2 3 rfl) _).trans (e_lf))    (p_0 := by omega)) (fun o V_q hq => ?_)
      obtain ⟨G658, A659, at2_660, tk2_661, op2_662, rfl, rfl, hW663, hF664, e665, e666, e667, p668, p669, p670, p671, -⟩ := hq
      have hF673 := Fr_tr hF642 hF664 (Fr_sub (by decide)) (Fr_sub (by decide))
      have hP674 := Pf_f hP643 hF664 (by decide)
      have hS675 := Fx_f hS644 hF664 (by decide)
      have hV676 := Fx_f hV645 hF664 (by decide)
      have ec677 : ecn A659 (G658 31) = ec := (ecn_f (hF664.2 15 rfl) (hF664.1 31 rfl)).trans ec646
      have bat2_660 : (0 : Int) ≤ at2_660 ∧ at2_660 ≤ 3002 := e665 ▸ hW663.1 10
      have ztk2_661 := tz_b tk2_661
      have btk2_661 : (0 : Int) ≤ tk2_661 ∧ tk2_661 ≤ 5 := e666 ▸ hW663.1 11
      have bop2_662 : (-2147483648 : Int) ≤ op2_662 ∧ op2_662 ≤ 2147483647 := e667 ▸ hW663.1 15
      refine .inl ⟨rfl, ?_⟩
      have pz678 : lf + tz tk2_661 ≤ at2_660 := by omega
      have z679 := tz_f (tk2_661)
      exact c_readProcess_s_w_at_27 (X := X) (k := k) (hP := hP) (d := d) (Vs := Vs) (sb := sb) (pb := pb) (hvb := hvb) (c0 := c0) (c1 := c1) (G := G) (A := A) (T := T) (lv := lv) (at0 := at0) (ln := ln) (li := li) (fk := fk) (nd := nd) (sy := sy) (na := na) (vi := vi) (lf := lf) (ac := ac) (ec := ec) (hd := hd) (hW := hW) (e_ln := e_ln) (e_li := e_li) (e_fk := e_fk) (e_nd := e_nd) (e_sy := e_sy) (e_na := e_na) (e_vi := e_vi) (e_lf := e_lf) (e_ac := e_ac) (e_ec := e_ec) (i_LT := i_LT) (i_SV := i_SV) (i_PQ := i_PQ) (h_lv := h_lv) (p_0 := p_0) (p_1 := p_1) (p_2 := p_2) (p_3 := p_3) (p_4 := p_4) (p_5 := p_5) (p_6 := p_6) (p_7 := p_7) (p_8 := p_8) (p_9 := p_9) (p_10 := p_10) _ L657 G658 A659 (0) (ln) (at2_660) (tk2_661) (fk2_636) (op2_662) (sy) (na) (vi) (A 4 (ln).toNat) rfl gL657_0 gL657_1 gL657_2 gL657_3 gL657_4 hW663 hF673 hP674 hS675 hV676 (((hF664.1 9 rfl).trans ((hF638.1 9 rfl).trans (e_ln)))) ((e665)) ((e666)) (((hF664.1 16 rfl).trans (e640))) ((e667)) (((hF664.1 19 rfl).trans ((hF638.1 19 rfl).trans (e_sy)))) (((hF664.1 28 rfl).trans ((hF638.1 28 rfl).trans (e_na)))) (((hF664.1 29 rfl).trans ((hF638.1 29 rfl).trans (e_vi)))) ((congrFun ((hF664.2 4 rfl).trans (hF638.2 4 rfl)) _)) (((hF664.1 31 rfl).trans ((hF638.1 31 rfl).trans (e_nd)))) (ec677) (by omega) (by omega) (by omega) (by omega) (by omega) (by omega) (by omega) (by omega) (by omega) (by omega) (by omega) (by omega) (by omega) (wD_nil) (DS_nil)
    · have _q := h654
      exact absurd h654 (by omega)
  · have _q : True := trivial
    refine jx_if_ne (pc_q := 8) (tg := 10) rfl rfl rfl (by decide) (by decide) (fun h680 => ?_) (fun h680 => ?_)
    · have _q := h680
      exact absurd h680 (by omega)
    · have _q := h680
      refine jx_ar (pc_q := 9) (st_q := [.int (i32 (0))]) rfl rfl rfl rfl ?_
      refine jx_rt (v := some (.int (i32 (0)))) rfl rfl rfl rfl rfl rfl ?_
      exact ⟨_, _, _, ln, ac, fk2_636, nd, sy, na, vi, lf, ec, rfl, rfl, hW637, hF642, hP643, hS644, hV645, by omega, ((hF638.1 9 rfl).trans (e_ln)), ((hF638.1 10 rfl).trans (e_ac)), (e640), ((hF638.1 31 rfl).trans (e_nd)), ((hF638.1 19 rfl).trans (e_sy)), ((hF638.1 28 rfl).trans (e_na)), ((hF638.1 29 rfl).trans (e_vi)), (congrFun (hF638.2 3 rfl) _).trans (e_lf), ec646, by omega, by omega, by omega, by omega, by omega, by omega, by omega, by omega, by omega, by first | exact Or.inl (⟨by omega, by omega⟩)⟩
set_option maxRecDepth 20000 in
set_option maxHeartbeats 4000000 in
theorem c_readProcess_0_w {X : jX} {dd : Nat} {Vs : Nat → Prop} {sb pb : Int} (hvb : VB Vs sb) {c0 c1 : jC} {G : Nat → Int} {A : Nat → Nat → Int} {T : jH} {lv : Int} {at0 : Int} {ln li fk nd sy na vi lf ac ec : Int} (hd : 8 * 0 + 80 ≤ dd) (hW : Wk G A) (e_ln : G 9 = ln) (e_li : G 3 = li) (e_fk : G 16 = fk) (e_nd : G 31 = nd) (e_sy : G 19 = sy) (e_na : G 28 = na) (e_vi : G 29 = vi) (e_lf : A 3 (ln).toNat = lf) (e_ac : G 10 = ac) (e_ec : ecn A (G 31) = ec) (i_LT : LT G A) (i_SV : SV Vs sb G A) (i_PQ : PQ Vs sb pb G A) (h_lv : (-2147483648 : Int) ≤ lv ∧ lv ≤ 2147483647) (p_0 : 0 ≤ lv ∧ lv ≤ 40) (p_1 : 18 - lv ≤ ((0 : Nat) : Int)) (p_2 : fk = 0) (p_3 : ln ≤ li) (p_4 : at0 < lf ∨ li ≤ ln) (p_5 : nd ≤ 2 * at0 + 32) (p_6 : sy ≤ na + 2) (p_7 : vi ≤ sy) (p_8 : at0 ≤ ac) (p_9 : -1 ≤ at0) (p_10 : sb ≤ sy) : wk X dd 292 [.ref 66, .int (i32 lv)] (rV c0 c1 G A T) (fun o V_q => ∃ (G_q : Nat → Int) (A_q : Nat → Nat → Int) (r : Int) (ln2 : Int) (at2 : Int) (fk2 : Int) (nd2 : Int) (sy2 : Int) (na2 : Int) (vi2 : Int) (lf2 : Int) (ec2 : Int), V_q = rV c0 c1 G_q A_q T ∧ o = .inl (some (.int (i32 r))) ∧ Wk G_q A_q ∧ Fr [9, 10, 11, 12, 13, 14, 15, 16, 17, 18, 19, 28, 29, 31] [6, 7, 8, 9, 10, 11, 12, 14, 15, 16, 17, 18, 19, 20, 21, 22, 23, 24, 28] G A G_q A_q ∧ Pf nd A A_q ∧ Fx sr (sy) A A_q ∧ Fx [14] (vi) A A_q ∧ ((-2147483648 : Int) ≤ r ∧ r ≤ 2147483647) ∧ G_q 9 = ln2 ∧ G_q 10 = at2 ∧ G_q 16 = fk2 ∧ G_q 31 = nd2 ∧ G_q 19 = sy2 ∧ G_q 28 = na2 ∧ G_q 29 = vi2 ∧ A_q 3 (ln2).toNat = lf2 ∧ ecn A_q (G_q 31) = ec2 ∧ (at0 ≤ at2) ∧ (nd ≤ nd2) ∧ (sy ≤ sy2) ∧ (sy2 ≤ na2 + 2) ∧ (vi2 = vi) ∧ (0 ≤ r) ∧ (r ≤ 6999) ∧ (ln ≤ ln2) ∧ (ln2 ≤ li) ∧ (((1 ≤ fk2) ∧ (nd2 - nd ≤ 2 * at2 - 2 * at0 + 12)) ∨ ((fk2 = 0) ∧ (ln < ln2) ∧ (nd2 - nd ≤ 2 * at2 - 2 * at0) ∧ (at2 < lf2 ∨ li ≤ ln2) ∧ (nd ≤ r) ∧ (r < nd2) ∧ (wP A_q (sy2) pb (0) (Vs) (r) (nd) (nd2) (sy) (sy2)) ∧ (NX A_q (r)) ∧ (nd2 - nd + 5 * (ec2 - ec) ≤ 2 * at2 - 2 * at0) ∧ (NdM A_q (nd) (nd2) (sy))))) := by
  obtain ⟨d, rfl⟩ : ∃ d, dd = d + 1 := ⟨dd - 1, by omega⟩
  refine wk_of (e := jm292) rfl (Nat.le_of_ble_eq_true rfl) ?_
  show wj X d jm292 (0, [(0, .ref 66), (1, .int (i32 (lv)))], [], rV c0 c1 G A T) _
  have hF0 : Fr [9, 10, 11, 12, 13, 14, 15, 16, 17, 18, 19, 28, 29, 31] [6, 7, 8, 9, 10, 11, 12, 14, 15, 16, 17, 18, 19, 20, 21, 22, 23, 24, 28] G A G A := Fr_rf
  have hP0 : Pf nd A A := Pf_rf
  have hS0 : Fx sr (sy) A A := Fx_rf
  have hV0 : Fx [14] (vi) A A := Fx_rf
  have b_ln : (0 : Int) ≤ ln ∧ ln ≤ 3000 := e_ln ▸ hW.1 9
  have b_li : (0 : Int) ≤ li ∧ li ≤ 3000 := e_li ▸ hW.1 3
  have b_fk : (0 : Int) ≤ fk ∧ fk ≤ 6 := e_fk ▸ hW.1 16
  have b_nd : (0 : Int) ≤ nd ∧ nd ≤ 6999 := e_nd ▸ hW.1 31
  have b_sy : (0 : Int) ≤ sy ∧ sy ≤ 202 := e_sy ▸ hW.1 19
  have b_na : (0 : Int) ≤ na ∧ na ≤ 200 := e_na ▸ hW.1 28
  have b_vi : (0 : Int) ≤ vi ∧ vi ≤ 202 := e_vi ▸ hW.1 29
  have b_lf : (0 : Int) ≤ lf ∧ lf ≤ 3000 := e_lf ▸ hW.2 3 _
  have b_ac : (0 : Int) ≤ ac ∧ ac ≤ 3002 := e_ac ▸ hW.1 10
  refine jx_ld (pc_q := 1) (l_q := [(0, .ref 66), (1, .int (i32 (lv)))]) (st_q := [.ref 66]) rfl (jl_aloadn rfl) ?_
  refine jx_ld (pc_q := 2) (l_q := [(0, .ref 66), (1, .int (i32 (lv)))]) (st_q := [.int (i32 (lv)), .ref 66]) rfl (jl_iloadn rfl) ?_
  have b1 : (-1 : Int) ≤ A 5 (ln).toNat ∧ A 5 (ln).toNat ≤ 15 := hW.2 5 _
  refine jx_vr (pc_q := 5) (as := [.int (i32 (lv))]) (st := []) rfl rfl rfl rfl ⟨rfl, rfl, Nat.le_of_ble_eq_true rfl⟩ rfl rfl (c_needLevel (dd := d) (hd := by omega) (hW := hW) (lv := lv) (ln := ln) (e_ln := show G 9 = ln from (e_ln)) (li := li) (e_li := show G 3 = li from (e_li)) (fk := fk) (e_fk := show G 16 = fk from (e_fk)) (ll := A 5 (ln).toNat) (e_ll := show A 5 (ln).toNat = A 5 (ln).toNat from rfl)  (h_lv := ⟨(Int.le_trans (by decide : (-2147483648 : Int) ≤ -2147483648) h_lv.1), (Int.le_trans h_lv.2 (by decide : (2147483647 : Int) ≤ 2147483647))⟩)  ) (fun o V_q hq => ?_)
  obtain ⟨G2, A3, r4, fk2_5, rfl, rfl, hW6, hF7, b8, e9, q10⟩ := hq
  have hF11 := Fr_tr hF0 hF7 (Fr_sub (by decide)) (Fr_sub (by decide))
  have hP12 := Pf_f hP0 hF7 (by decide)
  have hS13 := Fx_f hS0 hF7 (by decide)
  have hV14 := Fx_f hV0 hF7 (by decide)
  have ec15 : ecn A3 (G2 31) = ec := (ecn_f (hF7.2 15 rfl) (hF7.1 31 rfl)).trans e_ec
  have bfk2_5 : (0 : Int) ≤ fk2_5 ∧ fk2_5 ≤ 6 := e9 ▸ hW6.1 16
  refine .inr ⟨_, rfl, ?_⟩
  rcases q10 with ⟨rfl, a16, a17, a18, a19⟩ | ⟨rfl, a20⟩
  · have _q : True := trivial
    have b21 : (0 : Int) ≤ A 4 (ln).toNat ∧ A 4 (ln).toNat ≤ 3000 := hW.2 4 _
    have lt22 : lf < A 4 (ln).toNat := LT_at (LT_ext ((hF7.1 3 rfl)) ((hF7.2 3 rfl)) ((hF7.2 4 rfl)) i_LT) (show G2 3 = li from ((hF7.1 3 rfl).trans (e_li))) (show A3 3 (ln).toNat = lf from (congrFun (hF7.2 3 rfl) _).trans (e_lf)) (show A3 4 (ln).toNat = A 4 (ln).toNat from (congrFun (hF7.2 4 rfl) _)) (by omega) (by omega)
    refine jx_if_ne (pc_q := 8) (tg := 10) rfl rfl rfl (by decide) (by decide) (fun h23 => ?_) (fun h23 => ?_)
    · have _q := h23
      exfalso
      omega
    · have _q := h23
      exact absurd h23 (by omega)
  · have _q : True := trivial
    refine jx_if_ne (pc_q := 8) (tg := 10) rfl rfl rfl (by decide) (by decide) (fun h24 => ?_) (fun h24 => ?_)
    · have _q := h24
      exact absurd h24 (by omega)
    · have _q := h24
      refine jx_ar (pc_q := 9) (st_q := [.int (i32 (0))]) rfl rfl rfl rfl ?_
      refine jx_rt (v := some (.int (i32 (0)))) rfl rfl rfl rfl rfl rfl ?_
      exact ⟨_, _, _, ln, ac, fk2_5, nd, sy, na, vi, lf, ec, rfl, rfl, hW6, hF11, hP12, hS13, hV14, by omega, ((hF7.1 9 rfl).trans (e_ln)), ((hF7.1 10 rfl).trans (e_ac)), (e9), ((hF7.1 31 rfl).trans (e_nd)), ((hF7.1 19 rfl).trans (e_sy)), ((hF7.1 28 rfl).trans (e_na)), ((hF7.1 29 rfl).trans (e_vi)), (congrFun (hF7.2 3 rfl) _).trans (e_lf), ec15, by omega, by omega, by omega, by omega, by omega, by omega, by omega, by omega, by omega, by first | exact Or.inl (⟨by omega, by omega⟩)⟩
theorem RPw_all (X : jX) : ∀ k, RPw X k
  | 0 => @c_readProcess_0_w X
  | k + 1 => @c_readProcess_s_w X k (RPw_all X k)
