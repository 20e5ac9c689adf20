set_option maxRecDepth 20000 in
set_option maxHeartbeats 4000000 in
theorem c_readProcess_s_w_at_27 {X : jX} {k : Nat} (hP : RPw X k) {d : Nat} {Vs : Nat → Prop} {sb pb : Int} (hvb : VB Vs sb) {c0 c1 : jC} {G : Nat → Int} {A : Nat → Nat → Int} {T : jH} {lv : Int} {at0 : Int} {ln li fk nd sy na vi lf ac ec : Int} (hd : 8 * (k + 1) + 80 ≤ d + 1) (hW : Wk G A) (e_ln : G 9 = ln) (e_li : G 3 = li) (e_fk : G 16 = fk) (e_nd : G 31 = nd) (e_sy : G 19 = sy) (e_na : G 28 = na) (e_vi : G 29 = vi) (e_lf : A 3 (ln).toNat = lf) (e_ac : G 10 = ac) (e_ec : ecn A (G 31) = ec) (i_LT : LT G A) (i_SV : SV Vs sb G A) (i_PQ : PQ Vs sb pb G A) (h_lv : (-2147483648 : Int) ≤ lv ∧ lv ≤ 2147483647) (p_0 : 0 ≤ lv ∧ lv ≤ 40) (p_1 : 18 - lv ≤ ((k + 1 : Nat) : Int)) (p_2 : fk = 0) (p_3 : ln ≤ li) (p_4 : at0 < lf ∨ li ≤ ln) (p_5 : nd ≤ 2 * at0 + 32) (p_6 : sy ≤ na + 2) (p_7 : vi ≤ sy) (p_8 : at0 ≤ ac) (p_9 : -1 ≤ at0) (p_10 : sb ≤ sy) : ∀ (m : Nat) (L : jL) (Gx : Nat → Int) (Ax : Nat → Nat → Int) (dc ln1 at1 tk1 fk1 op1 sy1 na1 vi1 le1 : Int), (li - ln1).toNat = m → jGet L 0 = some (.ref 66) → jGet L 1 = some (.int (i32 (lv))) → jGet L 2 = some (.int (i32 (vi))) → jGet L 3 = some (.int (i32 (sy))) → jGet L 4 = some (.int (i32 dc)) → Wk Gx Ax → Fr [9, 10, 11, 12, 13, 14, 15, 16, 17, 18, 19, 28, 29, 31] [6, 7, 8, 9, 10, 11, 12, 14, 15, 16, 17, 18, 19, 20, 21, 22, 23, 24, 28] G A Gx Ax → Pf nd A Ax → Fx sr (sy) A Ax → Fx [14] (vi) A Ax → Gx 9 = ln1 → Gx 10 = at1 → Gx 11 = tk1 → Gx 16 = fk1 → Gx 15 = op1 → Gx 19 = sy1 → Gx 28 = na1 → Gx 29 = vi1 → Ax 4 (ln1).toNat = le1 → Gx 31 = nd → ecn Ax (Gx 31) = ec → ((-2147483648 : Int) ≤ dc ∧ dc ≤ 2147483647) → (fk1 = 0) → (lv ≤ 15) → (ln ≤ ln1) → (ln1 < li) → (at1 ≤ le1) → (2 * at0 + 2 ≤ 2 * at1 - tz tk1) → (op1 = 0) → (sy ≤ sy1) → (sy1 ≤ na1 + 2) → (vi ≤ vi1) → (vi1 ≤ sy1) → (dc = sy1 - sy) → (wD Ax (sy) (sy1)) → (DS Ax (vi) (vi1) (sy) (sy1)) → wj X d jm292 (27, L, [], rV c0 c1 Gx Ax T) (fun o V' => ∃ (G' : Nat → Int) (A' : Nat → Nat → Int) (r : Int) (ln2 : Int) (at2 : Int) (fk2 : Int) (nd2 : Int) (sy2 : Int) (na2 : Int) (vi2 : Int) (lf2 : Int) (ec2 : Int), V' = rV c0 c1 G' A' T ∧ o = .inl (some (.int (i32 r))) ∧ Wk G' A' ∧ Fr [9, 10, 11, 12, 13, 14, 15, 16, 17, 18, 19, 28, 29, 31] [6, 7, 8, 9, 10, 11, 12, 14, 15, 16, 17, 18, 19, 20, 21, 22, 23, 24, 28] G A G' A' ∧ Pf nd A A' ∧ Fx sr (sy) A A' ∧ Fx [14] (vi) A A' ∧ ((-2147483648 : Int) ≤ r ∧ r ≤ 2147483647) ∧ G' 9 = ln2 ∧ G' 10 = at2 ∧ G' 16 = fk2 ∧ G' 31 = nd2 ∧ G' 19 = sy2 ∧ G' 28 = na2 ∧ G' 29 = vi2 ∧ A' 3 (ln2).toNat = lf2 ∧ ecn A' (G' 31) = ec2 ∧ (at0 ≤ at2) ∧ (nd ≤ nd2) ∧ (sy ≤ sy2) ∧ (sy2 ≤ na2 + 2) ∧ (vi2 = vi) ∧ (0 ≤ r) ∧ (r ≤ 6999) ∧ (ln ≤ ln2) ∧ (ln2 ≤ li) ∧ (((1 ≤ fk2) ∧ (nd2 - nd ≤ 2 * at2 - 2 * at0 + 12)) ∨ ((fk2 = 0) ∧ (ln < ln2) ∧ (nd2 - nd ≤ 2 * at2 - 2 * at0) ∧ (at2 < lf2 ∨ li ≤ ln2) ∧ (nd ≤ r) ∧ (r < nd2) ∧ (wP A' (sy2) pb (k + 1) (Vs) (r) (nd) (nd2) (sy) (sy2)) ∧ (NX A' (r)) ∧ (nd2 - nd + 5 * (ec2 - ec) ≤ 2 * at2 - 2 * at0) ∧ (nd + 5 * ec ≤ r)))) := by
  have hF0 : Fr [9, 10, 11, 12, 13, 14, 15, 16, 17, 18, 19, 28, 29, 31] [6, 7, 8, 9, 10, 11, 12, 14, 15, 16, 17, 18, 19, 20, 21, 22, 23, 24, 28] G A G A := Fr_rf
  have hP0 : Pf nd A A := Pf_rf
  have hS0 : Fx sr (sy) A A := Fx_rf
  have hV0 : Fx [14] (vi) A A := Fx_rf
  have b_ln : (0 : Int) ≤ ln ∧ ln ≤ 3000 := e_ln ▸ hW.1 9
  have b_li : (0 : Int) ≤ li ∧ li ≤ 3000 := e_li ▸ hW.1 3
  have b_fk : (0 : Int) ≤ fk ∧ fk ≤ 6 := e_fk ▸ hW.1 16
  have b_nd : (0 : Int) ≤ nd ∧ nd ≤ 6999 := e_nd ▸ hW.1 31
  have b_sy : (0 : Int) ≤ sy ∧ sy ≤ 202 := e_sy ▸ hW.1 19
  have b_na : (0 : Int) ≤ na ∧ na ≤ 200 := e_na ▸ hW.1 28
  have b_vi : (0 : Int) ≤ vi ∧ vi ≤ 202 := e_vi ▸ hW.1 29
  have b_lf : (0 : Int) ≤ lf ∧ lf ≤ 3000 := e_lf ▸ hW.2 3 _
  have b_ac : (0 : Int) ≤ ac ∧ ac ≤ 3002 := e_ac ▸ hW.1 10
  intro m
  induction m using Nat.strongRecOn with
  | ind m ih27 =>
    intro L Gx Ax dc ln1 at1 tk1 fk1 op1 sy1 na1 vi1 le1 hm gL_0 gL_1 gL_2 gL_3 gL_4 hWx hFx hPx hSx hVx ex_ln1 ex_at1 ex_tk1 ex_fk1 ex_op1 ex_sy1 ex_na1 ex_vi1 ex_le1 fx_31 fx_900 rx_dc iv_0 iv_1 iv_2 iv_3 iv_4 iv_5 iv_6 iv_7 iv_8 iv_9 iv_10 iv_11 iv_12 iv_13
    have b_ln1 : (0 : Int) ≤ ln1 ∧ ln1 ≤ 3000 := ex_ln1 ▸ hWx.1 9
    have b_at1 : (0 : Int) ≤ at1 ∧ at1 ≤ 3002 := ex_at1 ▸ hWx.1 10
    have z_tk1 := tz_f tk1
    have b_tk1 : (0 : Int) ≤ tk1 ∧ tk1 ≤ 5 := ex_tk1 ▸ hWx.1 11
    have b_fk1 : (0 : Int) ≤ fk1 ∧ fk1 ≤ 6 := ex_fk1 ▸ hWx.1 16
    have b_op1 : (-2147483648 : Int) ≤ op1 ∧ op1 ≤ 2147483647 := ex_op1 ▸ hWx.1 15
    have b_sy1 : (0 : Int) ≤ sy1 ∧ sy1 ≤ 202 := ex_sy1 ▸ hWx.1 19
    have b_na1 : (0 : Int) ≤ na1 ∧ na1 ≤ 200 := ex_na1 ▸ hWx.1 28
    have b_vi1 : (0 : Int) ≤ vi1 ∧ vi1 ≤ 202 := ex_vi1 ▸ hWx.1 29
    refine jx_ld (pc' := 28) (l' := L) (st' := [.ref 66]) rfl (jl_aloadn gL_0) ?_
    refine jx_vr (pc' := 31) (as := []) (st := []) rfl rfl rfl rfl ⟨rfl, rfl, Nat.le_of_ble_eq_true rfl⟩ rfl rfl (c_bad (dd := d) (hd := by omega) (hW := hWx)  (fk := fk1) (e_fk := show Gx 16 = fk1 from (ex_fk1))    ) (fun o V' hq => ?_)
    obtain ⟨r1, rfl, rfl, b2, q3⟩ := hq
    refine .inr ⟨_, rfl, ?_⟩
    rcases q3 with ⟨rfl, a4⟩ | ⟨rfl, a5⟩
    · have _q : True := trivial
      exfalso
      omega
    · have _q : True := trivial
      refine jx_if_ne (pc' := 34) (tg := 98) rfl rfl rfl (by decide) (by decide) (fun h6 => ?_) (fun h6 => ?_)
      · have _q := h6
        exact absurd h6 (by omega)
      · have _q := h6
        refine jx_ld (pc' := 35) (l' := L) (st' := [.ref 66]) rfl (jl_aloadn gL_0) ?_
        refine jx_ar (pc' := 37) (st' := [.int (i32 (9)), .ref 66]) rfl rfl rfl rfl ?_
        have b7 : (-2147483648 : Int) ≤ Gx 13 ∧ Gx 13 ≤ 2147483647 := hWx.1 13
        refine jx_vr (pc' := 40) (as := [.int (i32 (9))]) (st := []) rfl rfl rfl rfl ⟨rfl, rfl, Nat.le_of_ble_eq_true rfl⟩ rfl rfl (c_isKey (dd := d) (hd := by omega) (hW := hWx) (k := 9) (tk := tk1) (e_tk := show Gx 11 = tk1 from (ex_tk1)) (tn := Gx 13) (e_tn := show Gx 13 = Gx 13 from rfl)  (h_k := ⟨(by decide), (by decide)⟩)  ) (fun o V' hq => ?_)
        obtain ⟨r8, rfl, rfl, b9, q10⟩ := hq
        refine .inr ⟨_, rfl, ?_⟩
        rcases q10 with ⟨rfl, a11, a12, a13⟩ | rfl
        · have _q : True := trivial
          refine jx_if_ne (pc' := 43) (tg := 61) rfl rfl rfl (by decide) (by decide) (fun h14 => ?_) (fun h14 => ?_)
          · have _q := h14
            refine jx_ld (pc' := 62) (l' := L) (st' := [.ref 66]) rfl (jl_aloadn gL_0) ?_
            refine jr_get (pc' := 65) (i := 19) (v := .int (i32 (sy1))) rfl rfl (by decide) (rFv_eq (by decide) (show Gx 19 = sy1 from (ex_sy1))) rfl ?_
            refine jx_ld (pc' := 67) (l' := jSto1 L 5 (.int (i32 (sy1)))) (st' := []) rfl rfl ?_
            obtain ⟨L15, eL15⟩ : ∃ q, q = jSto1 L 5 (.int (i32 (sy1))) := ⟨_, rfl⟩
            rw [← eL15]
            have gL15_0 : jGet L15 0 = some (.ref 66) := eL15 ▸ jg_ne (by decide) gL_0 rfl
            have gL15_1 : jGet L15 1 = some (.int (i32 (lv))) := eL15 ▸ jg_ne (by decide) gL_1 rfl
            have gL15_2 : jGet L15 2 = some (.int (i32 (vi))) := eL15 ▸ jg_ne (by decide) gL_2 rfl
            have gL15_3 : jGet L15 3 = some (.int (i32 (sy))) := eL15 ▸ jg_ne (by decide) gL_3 rfl
            have gL15_4 : jGet L15 4 = some (.int (i32 (dc))) := eL15 ▸ jg_ne (by decide) gL_4 rfl
            have gL15_5 : jGet L15 5 = some (.int (i32 (sy1))) := eL15 ▸ jg_eq
            refine jx_ld (pc' := 68) (l' := L15) (st' := [.ref 66]) rfl (jl_aloadn gL15_0) ?_
            refine jx_vr (pc' := 71) (as := []) (st := []) rfl rfl rfl rfl ⟨rfl, rfl, Nat.le_of_ble_eq_true rfl⟩ rfl rfl (c_readDeclaration (dd := d) (hd := by omega) (hW := hWx)  (ln := ln1) (e_ln := show Gx 9 = ln1 from (ex_ln1)) (le := le1) (e_le := show Ax 4 (ln1).toNat = le1 from (ex_le1)) (at0 := at1) (e_at0 := show Gx 10 = at1 from (ex_at1)) (fk := fk1) (e_fk := show Gx 16 = fk1 from (ex_fk1)) (tk0 := tk1) (e_tk0 := show Gx 11 = tk1 from (ex_tk1)) (li := li) (e_li := show Gx 3 = li from ((hFx.1 3 rfl).trans (e_li))) (sy := sy1) (e_sy := show Gx 19 = sy1 from (ex_sy1)) (na := na1) (e_na := show Gx 28 = na1 from (ex_na1)) (vi := vi1) (e_vi := show Gx 29 = vi1 from (ex_vi1))    (p_0 := by omega) (p_1 := by omega) (p_2 := by omega) (p_3 := by omega) (p_4 := by omega)) (fun o V' hq => ?_)
            obtain ⟨G16, A17, at2_18, fk2_19, ln2_20, sy2_21, na2_22, vi2_23, rfl, rfl, hW24, hF25, hQ26, hQ27, e28, e29, e30, e31, e32, e33, p34, p35, p36, p37, p38, p39, q40⟩ := hq
            have hF41 := Fr_tr hFx hF25 (Fr_sub (by decide)) (Fr_sub (by decide))
            have hP42 := Pf_f hPx hF25 (by decide)
            have hS43 := Fx_tr hSx hQ26 (by omega)
            have hV44 := Fx_tr hVx hQ27 (by omega)
            have sf45 : wD A17 (sy) (sy1) := wD_fx hQ26 (by omega) iv_12
            have sf46 : DS A17 (vi) (vi1) (sy) (sy1) := DS_fx hQ27 (by omega) iv_13
            have ec47 : ecn A17 (G16 31) = ec := (ecn_f (hF25.2 15 rfl) (hF25.1 31 rfl)).trans fx_900
            have bat2_18 : (0 : Int) ≤ at2_18 ∧ at2_18 ≤ 3002 := e28 ▸ hW24.1 10
            have bfk2_19 : (0 : Int) ≤ fk2_19 ∧ fk2_19 ≤ 6 := e29 ▸ hW24.1 16
            have bln2_20 : (0 : Int) ≤ ln2_20 ∧ ln2_20 ≤ 3000 := e30 ▸ hW24.1 9
            have bsy2_21 : (0 : Int) ≤ sy2_21 ∧ sy2_21 ≤ 202 := e31 ▸ hW24.1 19
            have bna2_22 : (0 : Int) ≤ na2_22 ∧ na2_22 ≤ 200 := e32 ▸ hW24.1 28
            have bvi2_23 : (0 : Int) ≤ vi2_23 ∧ vi2_23 ≤ 202 := e33 ▸ hW24.1 29
            refine .inl ⟨rfl, ?_⟩
            rcases q40 with ⟨a48, a49⟩ | ⟨a50, a51, a52, a53⟩
            · have _q : True := trivial
              refine jx_ld (pc' := 73) (l' := L15) (st' := [.int (i32 (dc))]) rfl (jl_iload gL15_4) ?_
              refine jx_ld (pc' := 74) (l' := L15) (st' := [.ref 66, .int (i32 (dc))]) rfl (jl_aloadn gL15_0) ?_
              refine jr_get (pc' := 77) (i := 19) (v := .int (i32 (sy2_21))) rfl rfl (by decide) (rFv_eq (by decide) (show G16 19 = sy2_21 from (e31))) rfl ?_
              refine jx_add (pc' := 78) rfl rfl ?_
              refine jx_ld (pc' := 80) (l' := L15) (st' := [.int (i32 (sy1)), .int (i32 ((dc + sy2_21)))]) rfl (jl_iload gL15_5) ?_
              refine jx_sub (pc' := 81) rfl rfl ?_
              refine jx_ld (pc' := 83) (l' := jSto1 L15 4 (.int (i32 (((dc + sy2_21) - sy1))))) (st' := []) rfl rfl ?_
              obtain ⟨L54, eL54⟩ : ∃ q, q = jSto1 L15 4 (.int (i32 (((dc + sy2_21) - sy1)))) := ⟨_, rfl⟩
              rw [← eL54]
              have gL54_0 : jGet L54 0 = some (.ref 66) := eL54 ▸ jg_ne (by decide) gL15_0 rfl
              have gL54_1 : jGet L54 1 = some (.int (i32 (lv))) := eL54 ▸ jg_ne (by decide) gL15_1 rfl
              have gL54_2 : jGet L54 2 = some (.int (i32 (vi))) := eL54 ▸ jg_ne (by decide) gL15_2 rfl
              have gL54_3 : jGet L54 3 = some (.int (i32 (sy))) := eL54 ▸ jg_ne (by decide) gL15_3 rfl
              have gL54_5 : jGet L54 5 = some (.int (i32 (sy1))) := eL54 ▸ jg_ne (by decide) gL15_5 rfl
              have gL54_4 : jGet L54 4 = some (.int (i32 (((dc + sy2_21) - sy1)))) := eL54 ▸ jg_eq
              refine jx_ld (pc' := 84) (l' := L54) (st' := [.ref 66]) rfl (jl_aloadn gL54_0) ?_
              refine jx_ld (pc' := 85) (l' := L54) (st' := [.int (i32 (lv)), .ref 66]) rfl (jl_iloadn gL54_1) ?_
              have b55 : (-1 : Int) ≤ A 5 (ln2_20).toNat ∧ A 5 (ln2_20).toNat ≤ 15 := hW.2 5 _
              refine jx_vr (pc' := 88) (as := [.int (i32 (lv))]) (st := []) rfl rfl rfl rfl ⟨rfl, rfl, Nat.le_of_ble_eq_true rfl⟩ rfl rfl (c_needLevel (dd := d) (hd := by omega) (hW := hW24) (lv := lv) (ln := ln2_20) (e_ln := show G16 9 = ln2_20 from (e30)) (li := li) (e_li := show G16 3 = li from ((hF25.1 3 rfl).trans ((hFx.1 3 rfl).trans (e_li)))) (fk := fk2_19) (e_fk := show G16 16 = fk2_19 from (e29)) (ll := A 5 (ln2_20).toNat) (e_ll := show A17 5 (ln2_20).toNat = A 5 (ln2_20).toNat from (congrFun ((hF25.2 5 rfl).trans (hFx.2 5 rfl)) _))  (h_lv := ⟨(Int.le_trans (by decide : (-2147483648 : Int) ≤ -2147483648) h_lv.1), (Int.le_trans h_lv.2 (by decide : (2147483647 : Int) ≤ 2147483647))⟩)  ) (fun o V' hq => ?_)
              obtain ⟨G56, A57, r58, fk2_59, rfl, rfl, hW60, hF61, b62, e63, q64⟩ := hq
              have hF65 := Fr_tr hF41 hF61 (Fr_sub (by decide)) (Fr_sub (by decide))
              have hP66 := Pf_f hP42 hF61 (by decide)
              have hS67 := Fx_f hS43 hF61 (by decide)
              have hV68 := Fx_f hV44 hF61 (by decide)
              have sf69 : wD A57 (sy) (sy1) := wD_fx (Sg_fr (sb := sy1) hF61 (by decide)) (by omega) sf45
              have sf70 : DS A57 (vi) (vi1) (sy) (sy1) := DS_ext (hF61.2 14 rfl) sf46
              have ec71 : ecn A57 (G56 31) = ec := (ecn_f (hF61.2 15 rfl) (hF61.1 31 rfl)).trans ec47
              have bfk2_59 : (0 : Int) ≤ fk2_59 ∧ fk2_59 ≤ 6 := e63 ▸ hW60.1 16
              refine .inr ⟨_, rfl, ?_⟩
              rcases q64 with ⟨rfl, a72, a73, a74, a75⟩ | ⟨rfl, a76⟩
              · have _q : True := trivial
                exfalso
                omega
              · have _q : True := trivial
                refine jx_if_eq (pc' := 91) (tg := 95) rfl rfl rfl (by decide) (by decide) (fun h77 => ?_) (fun h77 => ?_)
                · have _q := h77
                  refine jx_go (tg := 27) rfl rfl ?_
                  refine jx_ld (pc' := 28) (l' := L54) (st' := [.ref 66]) rfl (jl_aloadn gL54_0) ?_
                  refine jx_vr (pc' := 31) (as := []) (st := []) rfl rfl rfl rfl ⟨rfl, rfl, Nat.le_of_ble_eq_true rfl⟩ rfl rfl (c_bad (dd := d) (hd := by omega) (hW := hW60)  (fk := fk2_59) (e_fk := show G56 16 = fk2_59 from (e63))    ) (fun o V' hq => ?_)
                  obtain ⟨r78, rfl, rfl, b79, q80⟩ := hq
                  refine .inr ⟨_, rfl, ?_⟩
                  rcases q80 with ⟨rfl, a81⟩ | ⟨rfl, a82⟩
                  · have _q : True := trivial
                    refine jx_if_ne (pc' := 34) (tg := 98) rfl rfl rfl (by decide) (by decide) (fun h83 => ?_) (fun h83 => ?_)
                    · have _q := h83
                      refine jx_ld (pc' := 99) (l' := L54) (st' := [.ref 66]) rfl (jl_aloadn gL54_0) ?_
                      refine jx_vr (pc' := 102) (as := []) (st := []) rfl rfl rfl rfl ⟨rfl, rfl, Nat.le_of_ble_eq_true rfl⟩ rfl rfl (c_bad (dd := d) (hd := by omega) (hW := hW60)  (fk := fk2_59) (e_fk := show G56 16 = fk2_59 from (e63))    ) (fun o V' hq => ?_)
                      obtain ⟨r84, rfl, rfl, b85, q86⟩ := hq
                      refine .inr ⟨_, rfl, ?_⟩
                      rcases q86 with ⟨rfl, a87⟩ | ⟨rfl, a88⟩
                      · have _q : True := trivial
                        refine jx_if_eq (pc' := 105) (tg := 109) rfl rfl rfl (by decide) (by decide) (fun h89 => ?_) (fun h89 => ?_)
                        · have _q := h89
                          exact absurd h89 (by omega)
                        · have _q := h89
                          refine jx_ar (pc' := 106) (st' := [.int (i32 (0))]) rfl rfl rfl rfl ?_
                          refine jx_go (tg := 114) rfl rfl ?_
                          refine jx_ld (pc' := 116) (l' := jSto1 L54 5 (.int (i32 (0)))) (st' := []) rfl rfl ?_
                          obtain ⟨L90, eL90⟩ : ∃ q, q = jSto1 L54 5 (.int (i32 (0))) := ⟨_, rfl⟩
                          rw [← eL90]
                          have gL90_0 : jGet L90 0 = some (.ref 66) := eL90 ▸ jg_ne (by decide) gL54_0 rfl
                          have gL90_1 : jGet L90 1 = some (.int (i32 (lv))) := eL90 ▸ jg_ne (by decide) gL54_1 rfl
                          have gL90_2 : jGet L90 2 = some (.int (i32 (vi))) := eL90 ▸ jg_ne (by decide) gL54_2 rfl
                          have gL90_3 : jGet L90 3 = some (.int (i32 (sy))) := eL90 ▸ jg_ne (by decide) gL54_3 rfl
                          have gL90_4 : jGet L90 4 = some (.int (i32 (((dc + sy2_21) - sy1)))) := eL90 ▸ jg_ne (by decide) gL54_4 rfl
                          have gL90_5 : jGet L90 5 = some (.int (i32 (0))) := eL90 ▸ jg_eq
                          refine jx_ld (pc' := 117) (l' := L90) (st' := [.ref 66]) rfl (jl_aloadn gL90_0) ?_
                          refine jx_vr (pc' := 120) (as := []) (st := []) rfl rfl rfl rfl ⟨rfl, rfl, Nat.le_of_ble_eq_true rfl⟩ rfl rfl (c_bad (dd := d) (hd := by omega) (hW := hW60)  (fk := fk2_59) (e_fk := show G56 16 = fk2_59 from (e63))    ) (fun o V' hq => ?_)
                          obtain ⟨r91, rfl, rfl, b92, q93⟩ := hq
                          refine .inr ⟨_, rfl, ?_⟩
                          rcases q93 with ⟨rfl, a94⟩ | ⟨rfl, a95⟩
                          · have _q : True := trivial
                            refine jx_if_ne (pc' := 123) (tg := 140) rfl rfl rfl (by decide) (by decide) (fun h96 => ?_) (fun h96 => ?_)
                            · have _q := h96
                              refine jx_ld (pc' := 141) (l' := L90) (st' := [.ref 66]) rfl (jl_aloadn gL90_0) ?_
                              refine jx_ld (pc' := 142) (l' := L90) (st' := [.int (i32 (vi)), .ref 66]) rfl (jl_iloadn gL90_2) ?_
                              refine jr_put (pc' := 145) (i := 29) (z := vi) rfl rfl (by decide) rfl rfl rfl rfl rfl rfl ?_
                              have hW97 : Wk (uG G56 29 (vi)) A57 := Wk_g hW60 (show (0 : Int) ≤ vi by omega) (show vi ≤ (202 : Int) by omega)
                              have hF98 := Fr_g (z := vi) (i := 29) hF65 (by decide)
                              have ec99 : ecn A57 ((uG G56 29 (vi)) 31) = ec := ec71
                              refine jx_ld (pc' := 147) (l' := L90) (st' := [.int (i32 (0))]) rfl (jl_iload gL90_5) ?_
                              refine jx_rt (v := some (.int (i32 (0)))) rfl rfl rfl rfl rfl rfl ?_
                              exact ⟨_, _, _, ln2_20, at2_18, fk2_59, nd, sy2_21, na2_22, vi, A 3 (ln2_20).toNat, ec, rfl, rfl, hW97, hF98, hP66, hS67, hV68, by omega, ((hF61.1 9 rfl).trans (e30)), ((hF61.1 10 rfl).trans (e28)), (e63), ((hF61.1 31 rfl).trans ((hF25.1 31 rfl).trans (fx_31))), ((hF61.1 19 rfl).trans (e31)), ((hF61.1 28 rfl).trans (e32)), rfl, (congrFun ((hF61.2 3 rfl).trans ((hF25.2 3 rfl).trans (hFx.2 3 rfl))) _), ec99, by omega, by omega, by omega, by omega, by omega, by omega, by omega, by omega, by omega, by first | exact Or.inl (⟨by omega, by omega⟩)⟩
                            · have _q := h96
                              exact absurd h96 (by omega)
                          · have _q : True := trivial
                            exfalso
                            omega
                      · have _q : True := trivial
                        exfalso
                        omega
                    · have _q := h83
                      exact absurd h83 (by omega)
                  · have _q : True := trivial
                    exfalso
                    omega
                · have _q := h77
                  exact absurd h77 (by omega)
            · have _q : True := trivial
              have b100 : (0 : Int) ≤ A 3 (ln2_20).toNat ∧ A 3 (ln2_20).toNat ≤ 3000 := hW.2 3 _
              have lt101 : ln2_20 < li → le1 < A 3 (ln2_20).toNat := fun hh => LT_nx (LT_ext (((hF25.1 3 rfl).trans (hFx.1 3 rfl))) (((hF25.2 3 rfl).trans (hFx.2 3 rfl))) (((hF25.2 4 rfl).trans (hFx.2 4 rfl))) i_LT) (show G16 3 = li from ((hF25.1 3 rfl).trans ((hFx.1 3 rfl).trans (e_li)))) (show A17 4 (ln1).toNat = le1 from (congrFun (hF25.2 4 rfl) _).trans (ex_le1)) (show A17 3 (ln2_20).toNat = A 3 (ln2_20).toNat from (congrFun ((hF25.2 3 rfl).trans (hFx.2 3 rfl)) _)) (show ln2_20 = ln1 + 1 by omega) (by omega) hh
              refine jx_ld (pc' := 73) (l' := L15) (st' := [.int (i32 (dc))]) rfl (jl_iload gL15_4) ?_
              refine jx_ld (pc' := 74) (l' := L15) (st' := [.ref 66, .int (i32 (dc))]) rfl (jl_aloadn gL15_0) ?_
              refine jr_get (pc' := 77) (i := 19) (v := .int (i32 (sy2_21))) rfl rfl (by decide) (rFv_eq (by decide) (show G16 19 = sy2_21 from (e31))) rfl ?_
              refine jx_add (pc' := 78) rfl rfl ?_
              refine jx_ld (pc' := 80) (l' := L15) (st' := [.int (i32 (sy1)), .int (i32 ((dc + sy2_21)))]) rfl (jl_iload gL15_5) ?_
              refine jx_sub (pc' := 81) rfl rfl ?_
              refine jx_ld (pc' := 83) (l' := jSto1 L15 4 (.int (i32 (((dc + sy2_21) - sy1))))) (st' := []) rfl rfl ?_
              obtain ⟨L102, eL102⟩ : ∃ q, q = jSto1 L15 4 (.int (i32 (((dc + sy2_21) - sy1)))) := ⟨_, rfl⟩
              rw [← eL102]
              have gL102_0 : jGet L102 0 = some (.ref 66) := eL102 ▸ jg_ne (by decide) gL15_0 rfl
              have gL102_1 : jGet L102 1 = some (.int (i32 (lv))) := eL102 ▸ jg_ne (by decide) gL15_1 rfl
              have gL102_2 : jGet L102 2 = some (.int (i32 (vi))) := eL102 ▸ jg_ne (by decide) gL15_2 rfl
              have gL102_3 : jGet L102 3 = some (.int (i32 (sy))) := eL102 ▸ jg_ne (by decide) gL15_3 rfl
              have gL102_5 : jGet L102 5 = some (.int (i32 (sy1))) := eL102 ▸ jg_ne (by decide) gL15_5 rfl
              have gL102_4 : jGet L102 4 = some (.int (i32 (((dc + sy2_21) - sy1)))) := eL102 ▸ jg_eq
              refine jx_ld (pc' := 84) (l' := L102) (st' := [.ref 66]) rfl (jl_aloadn gL102_0) ?_
              refine jx_ld (pc' := 85) (l' := L102) (st' := [.int (i32 (lv)), .ref 66]) rfl (jl_iloadn gL102_1) ?_
              have b103 : (-1 : Int) ≤ A 5 (ln2_20).toNat ∧ A 5 (ln2_20).toNat ≤ 15 := hW.2 5 _
              refine jx_vr (pc' := 88) (as := [.int (i32 (lv))]) (st := []) rfl rfl rfl rfl ⟨rfl, rfl, Nat.le_of_ble_eq_true rfl⟩ rfl rfl (c_needLevel (dd := d) (hd := by omega) (hW := hW24) (lv := lv) (ln := ln2_20) (e_ln := show G16 9 = ln2_20 from (e30)) (li := li) (e_li := show G16 3 = li from ((hF25.1 3 rfl).trans ((hFx.1 3 rfl).trans (e_li)))) (fk := fk2_19) (e_fk := show G16 16 = fk2_19 from (e29)) (ll := A 5 (ln2_20).toNat) (e_ll := show A17 5 (ln2_20).toNat = A 5 (ln2_20).toNat from (congrFun ((hF25.2 5 rfl).trans (hFx.2 5 rfl)) _))  (h_lv := ⟨(Int.le_trans (by decide : (-2147483648 : Int) ≤ -2147483648) h_lv.1), (Int.le_trans h_lv.2 (by decide : (2147483647 : Int) ≤ 2147483647))⟩)  ) (fun o V' hq => ?_)
              obtain ⟨G104, A105, r106, fk2_107, rfl, rfl, hW108, hF109, b110, e111, q112⟩ := hq
              have hF113 := Fr_tr hF41 hF109 (Fr_sub (by decide)) (Fr_sub (by decide))
              have hP114 := Pf_f hP42 hF109 (by decide)
              have hS115 := Fx_f hS43 hF109 (by decide)
              have hV116 := Fx_f hV44 hF109 (by decide)
              have sf117 : wD A105 (sy) (sy1) := wD_fx (Sg_fr (sb := sy1) hF109 (by decide)) (by omega) sf45
              have sf118 : DS A105 (vi) (vi1) (sy) (sy1) := DS_ext (hF109.2 14 rfl) sf46
              have sf119 : wD A105 (sy1) (sy2_21) := wD_fx (Sg_fr (sb := sy2_21) hF109 (by decide)) (by omega) a52
              have sf120 : DS A105 (vi1) (vi2_23) (sy1) (sy2_21) := DS_ext (hF109.2 14 rfl) a53
              have ec121 : ecn A105 (G104 31) = ec := (ecn_f (hF109.2 15 rfl) (hF109.1 31 rfl)).trans ec47
              have bfk2_107 : (0 : Int) ≤ fk2_107 ∧ fk2_107 ≤ 6 := e111 ▸ hW108.1 16
              refine .inr ⟨_, rfl, ?_⟩
              rcases q112 with ⟨rfl, a122, a123, a124, a125⟩ | ⟨rfl, a126⟩
              · have _q : True := trivial
                have b127 : (0 : Int) ≤ A 4 (ln2_20).toNat ∧ A 4 (ln2_20).toNat ≤ 3000 := hW.2 4 _
                have lt128 : A 3 (ln2_20).toNat < A 4 (ln2_20).toNat := LT_at (LT_ext (((hF109.1 3 rfl).trans ((hF25.1 3 rfl).trans (hFx.1 3 rfl)))) (((hF109.2 3 rfl).trans ((hF25.2 3 rfl).trans (hFx.2 3 rfl)))) (((hF109.2 4 rfl).trans ((hF25.2 4 rfl).trans (hFx.2 4 rfl)))) i_LT) (show G104 3 = li from ((hF109.1 3 rfl).trans ((hF25.1 3 rfl).trans ((hFx.1 3 rfl).trans (e_li))))) (show A105 3 (ln2_20).toNat = A 3 (ln2_20).toNat from (congrFun ((hF109.2 3 rfl).trans ((hF25.2 3 rfl).trans (hFx.2 3 rfl))) _)) (show A105 4 (ln2_20).toNat = A 4 (ln2_20).toNat from (congrFun ((hF109.2 4 rfl).trans ((hF25.2 4 rfl).trans (hFx.2 4 rfl))) _)) (by omega) (by omega)
                refine jx_if_eq (pc' := 91) (tg := 95) rfl rfl rfl (by decide) (by decide) (fun h129 => ?_) (fun h129 => ?_)
                · have _q := h129
                  exact absurd h129 (by omega)
                · have _q := h129
                  refine jx_ld (pc' := 92) (l' := L102) (st' := [.ref 66]) rfl (jl_aloadn gL102_0) ?_
                  refine jx_vr (pc' := 95) (as := []) (st := []) rfl rfl rfl rfl ⟨rfl, rfl, Nat.le_of_ble_eq_true rfl⟩ rfl rfl (c_openLine (dd := d) (hd := by omega) (hW := hW108)  (ln := ln2_20) (e_ln := show G104 9 = ln2_20 from ((hF109.1 9 rfl).trans (e30))) (le := A 4 (ln2_20).toNat) (e_le := show A105 4 (ln2_20).toNat = A 4 (ln2_20).toNat from (congrFun ((hF109.2 4 rfl).trans ((hF25.2 4 rfl).trans (hFx.2 4 rfl))) _)) (lf := A 3 (ln2_20).toNat) (e_lf := show A105 3 (ln2_20).toNat = A 3 (ln2_20).toNat from (congrFun ((hF109.2 3 rfl).trans ((hF25.2 3 rfl).trans (hFx.2 3 rfl))) _))    (p_0 := by omega)) (fun o V' hq => ?_)
                  obtain ⟨G130, A131, at2_132, tk2_133, op2_134, rfl, rfl, hW135, hF136, e137, e138, e139, p140, p141, p142, p143, -⟩ := hq
                  have hF145 := Fr_tr hF113 hF136 (Fr_sub (by decide)) (Fr_sub (by decide))
                  have hP146 := Pf_f hP114 hF136 (by decide)
                  have hS147 := Fx_f hS115 hF136 (by decide)
                  have hV148 := Fx_f hV116 hF136 (by decide)
                  have sf149 : wD A131 (sy) (sy1) := wD_fx (Sg_fr (sb := sy1) hF136 (by decide)) (by omega) sf117
                  have sf150 : DS A131 (vi) (vi1) (sy) (sy1) := DS_ext (hF136.2 14 rfl) sf118
                  have sf151 : wD A131 (sy1) (sy2_21) := wD_fx (Sg_fr (sb := sy2_21) hF136 (by decide)) (by omega) sf119
                  have sf152 : DS A131 (vi1) (vi2_23) (sy1) (sy2_21) := DS_ext (hF136.2 14 rfl) sf120
                  have ec153 : ecn A131 (G130 31) = ec := (ecn_f (hF136.2 15 rfl) (hF136.1 31 rfl)).trans ec121
                  have bat2_132 : (0 : Int) ≤ at2_132 ∧ at2_132 ≤ 3002 := e137 ▸ hW135.1 10
                  have ztk2_133 := tz_b tk2_133
                  have btk2_133 : (0 : Int) ≤ tk2_133 ∧ tk2_133 ≤ 5 := e138 ▸ hW135.1 11
                  have bop2_134 : (-2147483648 : Int) ≤ op2_134 ∧ op2_134 ≤ 2147483647 := e139 ▸ hW135.1 15
                  refine .inl ⟨rfl, ?_⟩
                  refine jx_go (tg := 27) rfl rfl ?_
                  have z154 := tz_f (tk2_133)
                  exact ih27 _ (by omega) L102 G130 A131 (((dc + sy2_21) - sy1)) (ln2_20) (at2_132) (tk2_133) (fk2_107) (op2_134) (sy2_21) (na2_22) (vi2_23) (A 4 (ln2_20).toNat) rfl gL102_0 gL102_1 gL102_2 gL102_3 gL102_4 hW135 hF145 hP146 hS147 hV148 (((hF136.1 9 rfl).trans ((hF109.1 9 rfl).trans (e30)))) ((e137)) ((e138)) (((hF136.1 16 rfl).trans (e111))) ((e139)) (((hF136.1 19 rfl).trans ((hF109.1 19 rfl).trans (e31)))) (((hF136.1 28 rfl).trans ((hF109.1 28 rfl).trans (e32)))) (((hF136.1 29 rfl).trans ((hF109.1 29 rfl).trans (e33)))) ((congrFun ((hF136.2 4 rfl).trans ((hF109.2 4 rfl).trans ((hF25.2 4 rfl).trans (hFx.2 4 rfl)))) _)) (((hF136.1 31 rfl).trans ((hF109.1 31 rfl).trans ((hF25.1 31 rfl).trans (fx_31))))) (ec153) (by omega) (by omega) (by omega) (by omega) (by omega) (by omega) (by omega) (by omega) (by omega) (by omega) (by omega) (by omega) (by omega) ((wD_tr sf149 sf151)) ((DS_app sf150 sf152 (by omega) (by omega)))
              · have _q : True := trivial
                refine jx_if_eq (pc' := 91) (tg := 95) rfl rfl rfl (by decide) (by decide) (fun h155 => ?_) (fun h155 => ?_)
                · have _q := h155
                  refine jx_go (tg := 27) rfl rfl ?_
                  refine jx_ld (pc' := 28) (l' := L102) (st' := [.ref 66]) rfl (jl_aloadn gL102_0) ?_
                  refine jx_vr (pc' := 31) (as := []) (st := []) rfl rfl rfl rfl ⟨rfl, rfl, Nat.le_of_ble_eq_true rfl⟩ rfl rfl (c_bad (dd := d) (hd := by omega) (hW := hW108)  (fk := fk2_107) (e_fk := show G104 16 = fk2_107 from (e111))    ) (fun o V' hq => ?_)
                  obtain ⟨r156, rfl, rfl, b157, q158⟩ := hq
                  refine .inr ⟨_, rfl, ?_⟩
                  rcases q158 with ⟨rfl, a159⟩ | ⟨rfl, a160⟩
                  · have _q : True := trivial
                    refine jx_if_ne (pc' := 34) (tg := 98) rfl rfl rfl (by decide) (by decide) (fun h161 => ?_) (fun h161 => ?_)
                    · have _q := h161
                      refine jx_ld (pc' := 99) (l' := L102) (st' := [.ref 66]) rfl (jl_aloadn gL102_0) ?_
                      refine jx_vr (pc' := 102) (as := []) (st := []) rfl rfl rfl rfl ⟨rfl, rfl, Nat.le_of_ble_eq_true rfl⟩ rfl rfl (c_bad (dd := d) (hd := by omega) (hW := hW108)  (fk := fk2_107) (e_fk := show G104 16 = fk2_107 from (e111))    ) (fun o V' hq => ?_)
                      obtain ⟨r162, rfl, rfl, b163, q164⟩ := hq
                      refine .inr ⟨_, rfl, ?_⟩
                      rcases q164 with ⟨rfl, a165⟩ | ⟨rfl, a166⟩
                      · have _q : True := trivial
                        refine jx_if_eq (pc' := 105) (tg := 109) rfl rfl rfl (by decide) (by decide) (fun h167 => ?_) (fun h167 => ?_)
                        · have _q := h167
                          exact absurd h167 (by omega)
                        · have _q := h167
                          refine jx_ar (pc' := 106) (st' := [.int (i32 (0))]) rfl rfl rfl rfl ?_
                          refine jx_go (tg := 114) rfl rfl ?_
                          refine jx_ld (pc' := 116) (l' := jSto1 L102 5 (.int (i32 (0)))) (st' := []) rfl rfl ?_
                          obtain ⟨L168, eL168⟩ : ∃ q, q = jSto1 L102 5 (.int (i32 (0))) := ⟨_, rfl⟩
                          rw [← eL168]
                          have gL168_0 : jGet L168 0 = some (.ref 66) := eL168 ▸ jg_ne (by decide) gL102_0 rfl
                          have gL168_1 : jGet L168 1 = some (.int (i32 (lv))) := eL168 ▸ jg_ne (by decide) gL102_1 rfl
                          have gL168_2 : jGet L168 2 = some (.int (i32 (vi))) := eL168 ▸ jg_ne (by decide) gL102_2 rfl
                          have gL168_3 : jGet L168 3 = some (.int (i32 (sy))) := eL168 ▸ jg_ne (by decide) gL102_3 rfl
                          have gL168_4 : jGet L168 4 = some (.int (i32 (((dc + sy2_21) - sy1)))) := eL168 ▸ jg_ne (by decide) gL102_4 rfl
                          have gL168_5 : jGet L168 5 = some (.int (i32 (0))) := eL168 ▸ jg_eq
                          refine jx_ld (pc' := 117) (l' := L168) (st' := [.ref 66]) rfl (jl_aloadn gL168_0) ?_
                          refine jx_vr (pc' := 120) (as := []) (st := []) rfl rfl rfl rfl ⟨rfl, rfl, Nat.le_of_ble_eq_true rfl⟩ rfl rfl (c_bad (dd := d) (hd := by omega) (hW := hW108)  (fk := fk2_107) (e_fk := show G104 16 = fk2_107 from (e111))    ) (fun o V' hq => ?_)
                          obtain ⟨r169, rfl, rfl, b170, q171⟩ := hq
                          refine .inr ⟨_, rfl, ?_⟩
                          rcases q171 with ⟨rfl, a172⟩ | ⟨rfl, a173⟩
                          · have _q : True := trivial
                            refine jx_if_ne (pc' := 123) (tg := 140) rfl rfl rfl (by decide) (by decide) (fun h174 => ?_) (fun h174 => ?_)
                            · have _q := h174
                              refine jx_ld (pc' := 141) (l' := L168) (st' := [.ref 66]) rfl (jl_aloadn gL168_0) ?_
                              refine jx_ld (pc' := 142) (l' := L168) (st' := [.int (i32 (vi)), .ref 66]) rfl (jl_iloadn gL168_2) ?_
                              refine jr_put (pc' := 145) (i := 29) (z := vi) rfl rfl (by decide) rfl rfl rfl rfl rfl rfl ?_
                              have hW175 : Wk (uG G104 29 (vi)) A105 := Wk_g hW108 (show (0 : Int) ≤ vi by omega) (show vi ≤ (202 : Int) by omega)
                              have hF176 := Fr_g (z := vi) (i := 29) hF113 (by decide)
                              have ec177 : ecn A105 ((uG G104 29 (vi)) 31) = ec := ec121
                              refine jx_ld (pc' := 147) (l' := L168) (st' := [.int (i32 (0))]) rfl (jl_iload gL168_5) ?_
                              refine jx_rt (v := some (.int (i32 (0)))) rfl rfl rfl rfl rfl rfl ?_
                              exact ⟨_, _, _, ln2_20, at2_18, fk2_107, nd, sy2_21, na2_22, vi, A 3 (ln2_20).toNat, ec, rfl, rfl, hW175, hF176, hP114, hS115, hV116, by omega, ((hF109.1 9 rfl).trans (e30)), ((hF109.1 10 rfl).trans (e28)), (e111), ((hF109.1 31 rfl).trans ((hF25.1 31 rfl).trans (fx_31))), ((hF109.1 19 rfl).trans (e31)), ((hF109.1 28 rfl).trans (e32)), rfl, (congrFun ((hF109.2 3 rfl).trans ((hF25.2 3 rfl).trans (hFx.2 3 rfl))) _), ec177, by omega, by omega, by omega, by omega, by omega, by omega, by omega, by omega, by omega, by first | exact Or.inl (⟨by omega, by omega⟩)⟩
                            · have _q := h174
                              exact absurd h174 (by omega)
                          · have _q : True := trivial
                            exfalso
                            omega
                      · have _q : True := trivial
                        exfalso
                        omega
                    · have _q := h161
                      exact absurd h161 (by omega)
                  · have _q : True := trivial
                    exfalso
                    omega
                · have _q := h155
                  exact absurd h155 (by omega)
          · have _q := h14
            exact absurd h14 (by omega)
        · have _q : True := trivial
          refine jx_if_ne (pc' := 43) (tg := 61) rfl rfl rfl (by decide) (by decide) (fun h178 => ?_) (fun h178 => ?_)
          · have _q := h178
            exact absurd h178 (by omega)
          · have _q := h178
            refine jx_ld (pc' := 44) (l' := L) (st' := [.ref 66]) rfl (jl_aloadn gL_0) ?_
            refine jx_ar (pc' := 46) (st' := [.int (i32 (10)), .ref 66]) rfl rfl rfl rfl ?_
            refine jx_vr (pc' := 49) (as := [.int (i32 (10))]) (st := []) rfl rfl rfl rfl ⟨rfl, rfl, Nat.le_of_ble_eq_true rfl⟩ rfl rfl (c_isKey (dd := d) (hd := by omega) (hW := hWx) (k := 10) (tk := tk1) (e_tk := show Gx 11 = tk1 from (ex_tk1)) (tn := Gx 13) (e_tn := show Gx 13 = Gx 13 from rfl)  (h_k := ⟨(by decide), (by decide)⟩)  ) (fun o V' hq => ?_)
            obtain ⟨r179, rfl, rfl, b180, q181⟩ := hq
            refine .inr ⟨_, rfl, ?_⟩
            rcases q181 with ⟨rfl, a182, a183, a184⟩ | rfl
            · have _q : True := trivial
              refine jx_if_ne (pc' := 52) (tg := 61) rfl rfl rfl (by decide) (by decide) (fun h185 => ?_) (fun h185 => ?_)
              · have _q := h185
                refine jx_ld (pc' := 62) (l' := L) (st' := [.ref 66]) rfl (jl_aloadn gL_0) ?_
                refine jr_get (pc' := 65) (i := 19) (v := .int (i32 (sy1))) rfl rfl (by decide) (rFv_eq (by decide) (show Gx 19 = sy1 from (ex_sy1))) rfl ?_
                refine jx_ld (pc' := 67) (l' := jSto1 L 5 (.int (i32 (sy1)))) (st' := []) rfl rfl ?_
                obtain ⟨L186, eL186⟩ : ∃ q, q = jSto1 L 5 (.int (i32 (sy1))) := ⟨_, rfl⟩
                rw [← eL186]
                have gL186_0 : jGet L186 0 = some (.ref 66) := eL186 ▸ jg_ne (by decide) gL_0 rfl
                have gL186_1 : jGet L186 1 = some (.int (i32 (lv))) := eL186 ▸ jg_ne (by decide) gL_1 rfl
                have gL186_2 : jGet L186 2 = some (.int (i32 (vi))) := eL186 ▸ jg_ne (by decide) gL_2 rfl
                have gL186_3 : jGet L186 3 = some (.int (i32 (sy))) := eL186 ▸ jg_ne (by decide) gL_3 rfl
                have gL186_4 : jGet L186 4 = some (.int (i32 (dc))) := eL186 ▸ jg_ne (by decide) gL_4 rfl
                have gL186_5 : jGet L186 5 = some (.int (i32 (sy1))) := eL186 ▸ jg_eq
                refine jx_ld (pc' := 68) (l' := L186) (st' := [.ref 66]) rfl (jl_aloadn gL186_0) ?_
                refine jx_vr (pc' := 71) (as := []) (st := []) rfl rfl rfl rfl ⟨rfl, rfl, Nat.le_of_ble_eq_true rfl⟩ rfl rfl (c_readDeclaration (dd := d) (hd := by omega) (hW := hWx)  (ln := ln1) (e_ln := show Gx 9 = ln1 from (ex_ln1)) (le := le1) (e_le := show Ax 4 (ln1).toNat = le1 from (ex_le1)) (at0 := at1) (e_at0 := show Gx 10 = at1 from (ex_at1)) (fk := fk1) (e_fk := show Gx 16 = fk1 from (ex_fk1)) (tk0 := tk1) (e_tk0 := show Gx 11 = tk1 from (ex_tk1)) (li := li) (e_li := show Gx 3 = li from ((hFx.1 3 rfl).trans (e_li))) (sy := sy1) (e_sy := show Gx 19 = sy1 from (ex_sy1)) (na := na1) (e_na := show Gx 28 = na1 from (ex_na1)) (vi := vi1) (e_vi := show Gx 29 = vi1 from (ex_vi1))    (p_0 := by omega) (p_1 := by omega) (p_2 := by omega) (p_3 := by omega) (p_4 := by omega)) (fun o V' hq => ?_)
                obtain ⟨G187, A188, at2_189, fk2_190, ln2_191, sy2_192, na2_193, vi2_194, rfl, rfl, hW195, hF196, hQ197, hQ198, e199, e200, e201, e202, e203, e204, p205, p206, p207, p208, p209, p210, q211⟩ := hq
                have hF212 := Fr_tr hFx hF196 (Fr_sub (by decide)) (Fr_sub (by decide))
                have hP213 := Pf_f hPx hF196 (by decide)
                have hS214 := Fx_tr hSx hQ197 (by omega)
                have hV215 := Fx_tr hVx hQ198 (by omega)
                have sf216 : wD A188 (sy) (sy1) := wD_fx hQ197 (by omega) iv_12
                have sf217 : DS A188 (vi) (vi1) (sy) (sy1) := DS_fx hQ198 (by omega) iv_13
                have ec218 : ecn A188 (G187 31) = ec := (ecn_f (hF196.2 15 rfl) (hF196.1 31 rfl)).trans fx_900
                have bat2_189 : (0 : Int) ≤ at2_189 ∧ at2_189 ≤ 3002 := e199 ▸ hW195.1 10
                have bfk2_190 : (0 : Int) ≤ fk2_190 ∧ fk2_190 ≤ 6 := e200 ▸ hW195.1 16
                have bln2_191 : (0 : Int) ≤ ln2_191 ∧ ln2_191 ≤ 3000 := e201 ▸ hW195.1 9
                have bsy2_192 : (0 : Int) ≤ sy2_192 ∧ sy2_192 ≤ 202 := e202 ▸ hW195.1 19
                have bna2_193 : (0 : Int) ≤ na2_193 ∧ na2_193 ≤ 200 := e203 ▸ hW195.1 28
                have bvi2_194 : (0 : Int) ≤ vi2_194 ∧ vi2_194 ≤ 202 := e204 ▸ hW195.1 29
                refine .inl ⟨rfl, ?_⟩
                rcases q211 with ⟨a219, a220⟩ | ⟨a221, a222, a223, a224⟩
                · have _q : True := trivial
                  refine jx_ld (pc' := 73) (l' := L186) (st' := [.int (i32 (dc))]) rfl (jl_iload gL186_4) ?_
                  refine jx_ld (pc' := 74) (l' := L186) (st' := [.ref 66, .int (i32 (dc))]) rfl (jl_aloadn gL186_0) ?_
                  refine jr_get (pc' := 77) (i := 19) (v := .int (i32 (sy2_192))) rfl rfl (by decide) (rFv_eq (by decide) (show G187 19 = sy2_192 from (e202))) rfl ?_
                  refine jx_add (pc' := 78) rfl rfl ?_
                  refine jx_ld (pc' := 80) (l' := L186) (st' := [.int (i32 (sy1)), .int (i32 ((dc + sy2_192)))]) rfl (jl_iload gL186_5) ?_
                  refine jx_sub (pc' := 81) rfl rfl ?_
                  refine jx_ld (pc' := 83) (l' := jSto1 L186 4 (.int (i32 (((dc + sy2_192) - sy1))))) (st' := []) rfl rfl ?_
                  obtain ⟨L225, eL225⟩ : ∃ q, q = jSto1 L186 4 (.int (i32 (((dc + sy2_192) - sy1)))) := ⟨_, rfl⟩
                  rw [← eL225]
                  have gL225_0 : jGet L225 0 = some (.ref 66) := eL225 ▸ jg_ne (by decide) gL186_0 rfl
                  have gL225_1 : jGet L225 1 = some (.int (i32 (lv))) := eL225 ▸ jg_ne (by decide) gL186_1 rfl
                  have gL225_2 : jGet L225 2 = some (.int (i32 (vi))) := eL225 ▸ jg_ne (by decide) gL186_2 rfl
                  have gL225_3 : jGet L225 3 = some (.int (i32 (sy))) := eL225 ▸ jg_ne (by decide) gL186_3 rfl
                  have gL225_5 : jGet L225 5 = some (.int (i32 (sy1))) := eL225 ▸ jg_ne (by decide) gL186_5 rfl
                  have gL225_4 : jGet L225 4 = some (.int (i32 (((dc + sy2_192) - sy1)))) := eL225 ▸ jg_eq
                  refine jx_ld (pc' := 84) (l' := L225) (st' := [.ref 66]) rfl (jl_aloadn gL225_0) ?_
                  refine jx_ld (pc' := 85) (l' := L225) (st' := [.int (i32 (lv)), .ref 66]) rfl (jl_iloadn gL225_1) ?_
                  have b226 : (-1 : Int) ≤ A 5 (ln2_191).toNat ∧ A 5 (ln2_191).toNat ≤ 15 := hW.2 5 _
                  refine jx_vr (pc' := 88) (as := [.int (i32 (lv))]) (st := []) rfl rfl rfl rfl ⟨rfl, rfl, Nat.le_of_ble_eq_true rfl⟩ rfl rfl (c_needLevel (dd := d) (hd := by omega) (hW := hW195) (lv := lv) (ln := ln2_191) (e_ln := show G187 9 = ln2_191 from (e201)) (li := li) (e_li := show G187 3 = li from ((hF196.1 3 rfl).trans ((hFx.1 3 rfl).trans (e_li)))) (fk := fk2_190) (e_fk := show G187 16 = fk2_190 from (e200)) (ll := A 5 (ln2_191).toNat) (e_ll := show A188 5 (ln2_191).toNat = A 5 (ln2_191).toNat from (congrFun ((hF196.2 5 rfl).trans (hFx.2 5 rfl)) _))  (h_lv := ⟨(Int.le_trans (by decide : (-2147483648 : Int) ≤ -2147483648) h_lv.1), (Int.le_trans h_lv.2 (by decide : (2147483647 : Int) ≤ 2147483647))⟩)  ) (fun o V' hq => ?_)
                  obtain ⟨G227, A228, r229, fk2_230, rfl, rfl, hW231, hF232, b233, e234, q235⟩ := hq
                  have hF236 := Fr_tr hF212 hF232 (Fr_sub (by decide)) (Fr_sub (by decide))
                  have hP237 := Pf_f hP213 hF232 (by decide)
                  have hS238 := Fx_f hS214 hF232 (by decide)
                  have hV239 := Fx_f hV215 hF232 (by decide)
                  have sf240 : wD A228 (sy) (sy1) := wD_fx (Sg_fr (sb := sy1) hF232 (by decide)) (by omega) sf216
                  have sf241 : DS A228 (vi) (vi1) (sy) (sy1) := DS_ext (hF232.2 14 rfl) sf217
                  have ec242 : ecn A228 (G227 31) = ec := (ecn_f (hF232.2 15 rfl) (hF232.1 31 rfl)).trans ec218
                  have bfk2_230 : (0 : Int) ≤ fk2_230 ∧ fk2_230 ≤ 6 := e234 ▸ hW231.1 16
                  refine .inr ⟨_, rfl, ?_⟩
                  rcases q235 with ⟨rfl, a243, a244, a245, a246⟩ | ⟨rfl, a247⟩
                  · have _q : True := trivial
                    exfalso
                    omega
                  · have _q : True := trivial
                    refine jx_if_eq (pc' := 91) (tg := 95) rfl rfl rfl (by decide) (by decide) (fun h248 => ?_) (fun h248 => ?_)
                    · have _q := h248
                      refine jx_go (tg := 27) rfl rfl ?_
                      refine jx_ld (pc' := 28) (l' := L225) (st' := [.ref 66]) rfl (jl_aloadn gL225_0) ?_
                      refine jx_vr (pc' := 31) (as := []) (st := []) rfl rfl rfl rfl ⟨rfl, rfl, Nat.le_of_ble_eq_true rfl⟩ rfl rfl (c_bad (dd := d) (hd := by omega) (hW := hW231)  (fk := fk2_230) (e_fk := show G227 16 = fk2_230 from (e234))    ) (fun o V' hq => ?_)
                      obtain ⟨r249, rfl, rfl, b250, q251⟩ := hq
                      refine .inr ⟨_, rfl, ?_⟩
                      rcases q251 with ⟨rfl, a252⟩ | ⟨rfl, a253⟩
                      · have _q : True := trivial
                        refine jx_if_ne (pc' := 34) (tg := 98) rfl rfl rfl (by decide) (by decide) (fun h254 => ?_) (fun h254 => ?_)
                        · have _q := h254
                          refine jx_ld (pc' := 99) (l' := L225) (st' := [.ref 66]) rfl (jl_aloadn gL225_0) ?_
                          refine jx_vr (pc' := 102) (as := []) (st := []) rfl rfl rfl rfl ⟨rfl, rfl, Nat.le_of_ble_eq_true rfl⟩ rfl rfl (c_bad (dd := d) (hd := by omega) (hW := hW231)  (fk := fk2_230) (e_fk := show G227 16 = fk2_230 from (e234))    ) (fun o V' hq => ?_)
                          obtain ⟨r255, rfl, rfl, b256, q257⟩ := hq
                          refine .inr ⟨_, rfl, ?_⟩
                          rcases q257 with ⟨rfl, a258⟩ | ⟨rfl, a259⟩
                          · have _q : True := trivial
                            refine jx_if_eq (pc' := 105) (tg := 109) rfl rfl rfl (by decide) (by decide) (fun h260 => ?_) (fun h260 => ?_)
                            · have _q := h260
                              exact absurd h260 (by omega)
                            · have _q := h260
                              refine jx_ar (pc' := 106) (st' := [.int (i32 (0))]) rfl rfl rfl rfl ?_
                              refine jx_go (tg := 114) rfl rfl ?_
                              refine jx_ld (pc' := 116) (l' := jSto1 L225 5 (.int (i32 (0)))) (st' := []) rfl rfl ?_
                              obtain ⟨L261, eL261⟩ : ∃ q, q = jSto1 L225 5 (.int (i32 (0))) := ⟨_, rfl⟩
                              rw [← eL261]
                              have gL261_0 : jGet L261 0 = some (.ref 66) := eL261 ▸ jg_ne (by decide) gL225_0 rfl
                              have gL261_1 : jGet L261 1 = some (.int (i32 (lv))) := eL261 ▸ jg_ne (by decide) gL225_1 rfl
                              have gL261_2 : jGet L261 2 = some (.int (i32 (vi))) := eL261 ▸ jg_ne (by decide) gL225_2 rfl
                              have gL261_3 : jGet L261 3 = some (.int (i32 (sy))) := eL261 ▸ jg_ne (by decide) gL225_3 rfl
                              have gL261_4 : jGet L261 4 = some (.int (i32 (((dc + sy2_192) - sy1)))) := eL261 ▸ jg_ne (by decide) gL225_4 rfl
                              have gL261_5 : jGet L261 5 = some (.int (i32 (0))) := eL261 ▸ jg_eq
                              refine jx_ld (pc' := 117) (l' := L261) (st' := [.ref 66]) rfl (jl_aloadn gL261_0) ?_
                              refine jx_vr (pc' := 120) (as := []) (st := []) rfl rfl rfl rfl ⟨rfl, rfl, Nat.le_of_ble_eq_true rfl⟩ rfl rfl (c_bad (dd := d) (hd := by omega) (hW := hW231)  (fk := fk2_230) (e_fk := show G227 16 = fk2_230 from (e234))    ) (fun o V' hq => ?_)
                              obtain ⟨r262, rfl, rfl, b263, q264⟩ := hq
                              refine .inr ⟨_, rfl, ?_⟩
                              rcases q264 with ⟨rfl, a265⟩ | ⟨rfl, a266⟩
                              · have _q : True := trivial
                                refine jx_if_ne (pc' := 123) (tg := 140) rfl rfl rfl (by decide) (by decide) (fun h267 => ?_) (fun h267 => ?_)
                                · have _q := h267
                                  refine jx_ld (pc' := 141) (l' := L261) (st' := [.ref 66]) rfl (jl_aloadn gL261_0) ?_
                                  refine jx_ld (pc' := 142) (l' := L261) (st' := [.int (i32 (vi)), .ref 66]) rfl (jl_iloadn gL261_2) ?_
                                  refine jr_put (pc' := 145) (i := 29) (z := vi) rfl rfl (by decide) rfl rfl rfl rfl rfl rfl ?_
                                  have hW268 : Wk (uG G227 29 (vi)) A228 := Wk_g hW231 (show (0 : Int) ≤ vi by omega) (show vi ≤ (202 : Int) by omega)
                                  have hF269 := Fr_g (z := vi) (i := 29) hF236 (by decide)
                                  have ec270 : ecn A228 ((uG G227 29 (vi)) 31) = ec := ec242
                                  refine jx_ld (pc' := 147) (l' := L261) (st' := [.int (i32 (0))]) rfl (jl_iload gL261_5) ?_
                                  refine jx_rt (v := some (.int (i32 (0)))) rfl rfl rfl rfl rfl rfl ?_
                                  exact ⟨_, _, _, ln2_191, at2_189, fk2_230, nd, sy2_192, na2_193, vi, A 3 (ln2_191).toNat, ec, rfl, rfl, hW268, hF269, hP237, hS238, hV239, by omega, ((hF232.1 9 rfl).trans (e201)), ((hF232.1 10 rfl).trans (e199)), (e234), ((hF232.1 31 rfl).trans ((hF196.1 31 rfl).trans (fx_31))), ((hF232.1 19 rfl).trans (e202)), ((hF232.1 28 rfl).trans (e203)), rfl, (congrFun ((hF232.2 3 rfl).trans ((hF196.2 3 rfl).trans (hFx.2 3 rfl))) _), ec270, by omega, by omega, by omega, by omega, by omega, by omega, by omega, by omega, by omega, by first | exact Or.inl (⟨by omega, by omega⟩)⟩
                                · have _q := h267
                                  exact absurd h267 (by omega)
                              · have _q : True := trivial
                                exfalso
                                omega
                          · have _q : True := trivial
                            exfalso
                            omega
                        · have _q := h254
                          exact absurd h254 (by omega)
                      · have _q : True := trivial
                        exfalso
                        omega
                    · have _q := h248
                      exact absurd h248 (by omega)
                · have _q : True := trivial
                  have b271 : (0 : Int) ≤ A 3 (ln2_191).toNat ∧ A 3 (ln2_191).toNat ≤ 3000 := hW.2 3 _
                  have lt272 : ln2_191 < li → le1 < A 3 (ln2_191).toNat := fun hh => LT_nx (LT_ext (((hF196.1 3 rfl).trans (hFx.1 3 rfl))) (((hF196.2 3 rfl).trans (hFx.2 3 rfl))) (((hF196.2 4 rfl).trans (hFx.2 4 rfl))) i_LT) (show G187 3 = li from ((hF196.1 3 rfl).trans ((hFx.1 3 rfl).trans (e_li)))) (show A188 4 (ln1).toNat = le1 from (congrFun (hF196.2 4 rfl) _).trans (ex_le1)) (show A188 3 (ln2_191).toNat = A 3 (ln2_191).toNat from (congrFun ((hF196.2 3 rfl).trans (hFx.2 3 rfl)) _)) (show ln2_191 = ln1 + 1 by omega) (by omega) hh
                  refine jx_ld (pc' := 73) (l' := L186) (st' := [.int (i32 (dc))]) rfl (jl_iload gL186_4) ?_
                  refine jx_ld (pc' := 74) (l' := L186) (st' := [.ref 66, .int (i32 (dc))]) rfl (jl_aloadn gL186_0) ?_
                  refine jr_get (pc' := 77) (i := 19) (v := .int (i32 (sy2_192))) rfl rfl (by decide) (rFv_eq (by decide) (show G187 19 = sy2_192 from (e202))) rfl ?_
                  refine jx_add (pc' := 78) rfl rfl ?_
                  refine jx_ld (pc' := 80) (l' := L186) (st' := [.int (i32 (sy1)), .int (i32 ((dc + sy2_192)))]) rfl (jl_iload gL186_5) ?_
                  refine jx_sub (pc' := 81) rfl rfl ?_
                  refine jx_ld (pc' := 83) (l' := jSto1 L186 4 (.int (i32 (((dc + sy2_192) - sy1))))) (st' := []) rfl rfl ?_
                  obtain ⟨L273, eL273⟩ : ∃ q, q = jSto1 L186 4 (.int (i32 (((dc + sy2_192) - sy1)))) := ⟨_, rfl⟩
                  rw [← eL273]
                  have gL273_0 : jGet L273 0 = some (.ref 66) := eL273 ▸ jg_ne (by decide) gL186_0 rfl
                  have gL273_1 : jGet L273 1 = some (.int (i32 (lv))) := eL273 ▸ jg_ne (by decide) gL186_1 rfl
                  have gL273_2 : jGet L273 2 = some (.int (i32 (vi))) := eL273 ▸ jg_ne (by decide) gL186_2 rfl
                  have gL273_3 : jGet L273 3 = some (.int (i32 (sy))) := eL273 ▸ jg_ne (by decide) gL186_3 rfl
                  have gL273_5 : jGet L273 5 = some (.int (i32 (sy1))) := eL273 ▸ jg_ne (by decide) gL186_5 rfl
                  have gL273_4 : jGet L273 4 = some (.int (i32 (((dc + sy2_192) - sy1)))) := eL273 ▸ jg_eq
                  refine jx_ld (pc' := 84) (l' := L273) (st' := [.ref 66]) rfl (jl_aloadn gL273_0) ?_
                  refine jx_ld (pc' := 85) (l' := L273) (st' := [.int (i32 (lv)), .ref 66]) rfl (jl_iloadn gL273_1) ?_
                  have b274 : (-1 : Int) ≤ A 5 (ln2_191).toNat ∧ A 5 (ln2_191).toNat ≤ 15 := hW.2 5 _
                  refine jx_vr (pc' := 88) (as := [.int (i32 (lv))]) (st := []) rfl rfl rfl rfl ⟨rfl, rfl, Nat.le_of_ble_eq_true rfl⟩ rfl rfl (c_needLevel (dd := d) (hd := by omega) (hW := hW195) (lv := lv) (ln := ln2_191) (e_ln := show G187 9 = ln2_191 from (e201)) (li := li) (e_li := show G187 3 = li from ((hF196.1 3 rfl).trans ((hFx.1 3 rfl).trans (e_li)))) (fk := fk2_190) (e_fk := show G187 16 = fk2_190 from (e200)) (ll := A 5 (ln2_191).toNat) (e_ll := show A188 5 (ln2_191).toNat = A 5 (ln2_191).toNat from (congrFun ((hF196.2 5 rfl).trans (hFx.2 5 rfl)) _))  (h_lv := ⟨(Int.le_trans (by decide : (-2147483648 : Int) ≤ -2147483648) h_lv.1), (Int.le_trans h_lv.2 (by decide : (2147483647 : Int) ≤ 2147483647))⟩)  ) (fun o V' hq => ?_)
                  obtain ⟨G275, A276, r277, fk2_278, rfl, rfl, hW279, hF280, b281, e282, q283⟩ := hq
                  have hF284 := Fr_tr hF212 hF280 (Fr_sub (by decide)) (Fr_sub (by decide))
                  have hP285 := Pf_f hP213 hF280 (by decide)
                  have hS286 := Fx_f hS214 hF280 (by decide)
                  have hV287 := Fx_f hV215 hF280 (by decide)
                  have sf288 : wD A276 (sy) (sy1) := wD_fx (Sg_fr (sb := sy1) hF280 (by decide)) (by omega) sf216
                  have sf289 : DS A276 (vi) (vi1) (sy) (sy1) := DS_ext (hF280.2 14 rfl) sf217
                  have sf290 : wD A276 (sy1) (sy2_192) := wD_fx (Sg_fr (sb := sy2_192) hF280 (by decide)) (by omega) a223
                  have sf291 : DS A276 (vi1) (vi2_194) (sy1) (sy2_192) := DS_ext (hF280.2 14 rfl) a224
                  have ec292 : ecn A276 (G275 31) = ec := (ecn_f (hF280.2 15 rfl) (hF280.1 31 rfl)).trans ec218
                  have bfk2_278 : (0 : Int) ≤ fk2_278 ∧ fk2_278 ≤ 6 := e282 ▸ hW279.1 16
                  refine .inr ⟨_, rfl, ?_⟩
                  rcases q283 with ⟨rfl, a293, a294, a295, a296⟩ | ⟨rfl, a297⟩
                  · have _q : True := trivial
                    have b298 : (0 : Int) ≤ A 4 (ln2_191).toNat ∧ A 4 (ln2_191).toNat ≤ 3000 := hW.2 4 _
                    have lt299 : A 3 (ln2_191).toNat < A 4 (ln2_191).toNat := LT_at (LT_ext (((hF280.1 3 rfl).trans ((hF196.1 3 rfl).trans (hFx.1 3 rfl)))) (((hF280.2 3 rfl).trans ((hF196.2 3 rfl).trans (hFx.2 3 rfl)))) (((hF280.2 4 rfl).trans ((hF196.2 4 rfl).trans (hFx.2 4 rfl)))) i_LT) (show G275 3 = li from ((hF280.1 3 rfl).trans ((hF196.1 3 rfl).trans ((hFx.1 3 rfl).trans (e_li))))) (show A276 3 (ln2_191).toNat = A 3 (ln2_191).toNat from (congrFun ((hF280.2 3 rfl).trans ((hF196.2 3 rfl).trans (hFx.2 3 rfl))) _)) (show A276 4 (ln2_191).toNat = A 4 (ln2_191).toNat from (congrFun ((hF280.2 4 rfl).trans ((hF196.2 4 rfl).trans (hFx.2 4 rfl))) _)) (by omega) (by omega)
                    refine jx_if_eq (pc' := 91) (tg := 95) rfl rfl rfl (by decide) (by decide) (fun h300 => ?_) (fun h300 => ?_)
                    · have _q := h300
                      exact absurd h300 (by omega)
                    · have _q := h300
                      refine jx_ld (pc' := 92) (l' := L273) (st' := [.ref 66]) rfl (jl_aloadn gL273_0) ?_
                      refine jx_vr (pc' := 95) (as := []) (st := []) rfl rfl rfl rfl ⟨rfl, rfl, Nat.le_of_ble_eq_true rfl⟩ rfl rfl (c_openLine (dd := d) (hd := by omega) (hW := hW279)  (ln := ln2_191) (e_ln := show G275 9 = ln2_191 from ((hF280.1 9 rfl).trans (e201))) (le := A 4 (ln2_191).toNat) (e_le := show A276 4 (ln2_191).toNat = A 4 (ln2_191).toNat from (congrFun ((hF280.2 4 rfl).trans ((hF196.2 4 rfl).trans (hFx.2 4 rfl))) _)) (lf := A 3 (ln2_191).toNat) (e_lf := show A276 3 (ln2_191).toNat = A 3 (ln2_191).toNat from (congrFun ((hF280.2 3 rfl).trans ((hF196.2 3 rfl).trans (hFx.2 3 rfl))) _))    (p_0 := by omega)) (fun o V' hq => ?_)
                      obtain ⟨G301, A302, at2_303, tk2_304, op2_305, rfl, rfl, hW306, hF307, e308, e309, e310, p311, p312, p313, p314, -⟩ := hq
                      have hF316 := Fr_tr hF284 hF307 (Fr_sub (by decide)) (Fr_sub (by decide))
                      have hP317 := Pf_f hP285 hF307 (by decide)
                      have hS318 := Fx_f hS286 hF307 (by decide)
                      have hV319 := Fx_f hV287 hF307 (by decide)
                      have sf320 : wD A302 (sy) (sy1) := wD_fx (Sg_fr (sb := sy1) hF307 (by decide)) (by omega) sf288
                      have sf321 : DS A302 (vi) (vi1) (sy) (sy1) := DS_ext (hF307.2 14 rfl) sf289
                      have sf322 : wD A302 (sy1) (sy2_192) := wD_fx (Sg_fr (sb := sy2_192) hF307 (by decide)) (by omega) sf290
                      have sf323 : DS A302 (vi1) (vi2_194) (sy1) (sy2_192) := DS_ext (hF307.2 14 rfl) sf291
                      have ec324 : ecn A302 (G301 31) = ec := (ecn_f (hF307.2 15 rfl) (hF307.1 31 rfl)).trans ec292
                      have bat2_303 : (0 : Int) ≤ at2_303 ∧ at2_303 ≤ 3002 := e308 ▸ hW306.1 10
                      have ztk2_304 := tz_b tk2_304
                      have btk2_304 : (0 : Int) ≤ tk2_304 ∧ tk2_304 ≤ 5 := e309 ▸ hW306.1 11
                      have bop2_305 : (-2147483648 : Int) ≤ op2_305 ∧ op2_305 ≤ 2147483647 := e310 ▸ hW306.1 15
                      refine .inl ⟨rfl, ?_⟩
                      refine jx_go (tg := 27) rfl rfl ?_
                      have z325 := tz_f (tk2_304)
                      exact ih27 _ (by omega) L273 G301 A302 (((dc + sy2_192) - sy1)) (ln2_191) (at2_303) (tk2_304) (fk2_278) (op2_305) (sy2_192) (na2_193) (vi2_194) (A 4 (ln2_191).toNat) rfl gL273_0 gL273_1 gL273_2 gL273_3 gL273_4 hW306 hF316 hP317 hS318 hV319 (((hF307.1 9 rfl).trans ((hF280.1 9 rfl).trans (e201)))) ((e308)) ((e309)) (((hF307.1 16 rfl).trans (e282))) ((e310)) (((hF307.1 19 rfl).trans ((hF280.1 19 rfl).trans (e202)))) (((hF307.1 28 rfl).trans ((hF280.1 28 rfl).trans (e203)))) (((hF307.1 29 rfl).trans ((hF280.1 29 rfl).trans (e204)))) ((congrFun ((hF307.2 4 rfl).trans ((hF280.2 4 rfl).trans ((hF196.2 4 rfl).trans (hFx.2 4 rfl)))) _)) (((hF307.1 31 rfl).trans ((hF280.1 31 rfl).trans ((hF196.1 31 rfl).trans (fx_31))))) (ec324) (by omega) (by omega) (by omega) (by omega) (by omega) (by omega) (by omega) (by omega) (by omega) (by omega) (by omega) (by omega) (by omega) ((wD_tr sf320 sf322)) ((DS_app sf321 sf323 (by omega) (by omega)))
                  · have _q : True := trivial
                    refine jx_if_eq (pc' := 91) (tg := 95) rfl rfl rfl (by decide) (by decide) (fun h326 => ?_) (fun h326 => ?_)
                    · have _q := h326
                      refine jx_go (tg := 27) rfl rfl ?_
                      refine jx_ld (pc' := 28) (l' := L273) (st' := [.ref 66]) rfl (jl_aloadn gL273_0) ?_
                      refine jx_vr (pc' := 31) (as := []) (st := []) rfl rfl rfl rfl ⟨rfl, rfl, Nat.le_of_ble_eq_true rfl⟩ rfl rfl (c_bad (dd := d) (hd := by omega) (hW := hW279)  (fk := fk2_278) (e_fk := show G275 16 = fk2_278 from (e282))    ) (fun o V' hq => ?_)
                      obtain ⟨r327, rfl, rfl, b328, q329⟩ := hq
                      refine .inr ⟨_, rfl, ?_⟩
                      rcases q329 with ⟨rfl, a330⟩ | ⟨rfl, a331⟩
                      · have _q : True := trivial
                        refine jx_if_ne (pc' := 34) (tg := 98) rfl rfl rfl (by decide) (by decide) (fun h332 => ?_) (fun h332 => ?_)
                        · have _q := h332
                          refine jx_ld (pc' := 99) (l' := L273) (st' := [.ref 66]) rfl (jl_aloadn gL273_0) ?_
                          refine jx_vr (pc' := 102) (as := []) (st := []) rfl rfl rfl rfl ⟨rfl, rfl, Nat.le_of_ble_eq_true rfl⟩ rfl rfl (c_bad (dd := d) (hd := by omega) (hW := hW279)  (fk := fk2_278) (e_fk := show G275 16 = fk2_278 from (e282))    ) (fun o V' hq => ?_)
                          obtain ⟨r333, rfl, rfl, b334, q335⟩ := hq
                          refine .inr ⟨_, rfl, ?_⟩
                          rcases q335 with ⟨rfl, a336⟩ | ⟨rfl, a337⟩
                          · have _q : True := trivial
                            refine jx_if_eq (pc' := 105) (tg := 109) rfl rfl rfl (by decide) (by decide) (fun h338 => ?_) (fun h338 => ?_)
                            · have _q := h338
                              exact absurd h338 (by omega)
                            · have _q := h338
                              refine jx_ar (pc' := 106) (st' := [.int (i32 (0))]) rfl rfl rfl rfl ?_
                              refine jx_go (tg := 114) rfl rfl ?_
                              refine jx_ld (pc' := 116) (l' := jSto1 L273 5 (.int (i32 (0)))) (st' := []) rfl rfl ?_
                              obtain ⟨L339, eL339⟩ : ∃ q, q = jSto1 L273 5 (.int (i32 (0))) := ⟨_, rfl⟩
                              rw [← eL339]
                              have gL339_0 : jGet L339 0 = some (.ref 66) := eL339 ▸ jg_ne (by decide) gL273_0 rfl
                              have gL339_1 : jGet L339 1 = some (.int (i32 (lv))) := eL339 ▸ jg_ne (by decide) gL273_1 rfl
                              have gL339_2 : jGet L339 2 = some (.int (i32 (vi))) := eL339 ▸ jg_ne (by decide) gL273_2 rfl
                              have gL339_3 : jGet L339 3 = some (.int (i32 (sy))) := eL339 ▸ jg_ne (by decide) gL273_3 rfl
                              have gL339_4 : jGet L339 4 = some (.int (i32 (((dc + sy2_192) - sy1)))) := eL339 ▸ jg_ne (by decide) gL273_4 rfl
                              have gL339_5 : jGet L339 5 = some (.int (i32 (0))) := eL339 ▸ jg_eq
                              refine jx_ld (pc' := 117) (l' := L339) (st' := [.ref 66]) rfl (jl_aloadn gL339_0) ?_
                              refine jx_vr (pc' := 120) (as := []) (st := []) rfl rfl rfl rfl ⟨rfl, rfl, Nat.le_of_ble_eq_true rfl⟩ rfl rfl (c_bad (dd := d) (hd := by omega) (hW := hW279)  (fk := fk2_278) (e_fk := show G275 16 = fk2_278 from (e282))    ) (fun o V' hq => ?_)
                              obtain ⟨r340, rfl, rfl, b341, q342⟩ := hq
                              refine .inr ⟨_, rfl, ?_⟩
                              rcases q342 with ⟨rfl, a343⟩ | ⟨rfl, a344⟩
                              · have _q : True := trivial
                                refine jx_if_ne (pc' := 123) (tg := 140) rfl rfl rfl (by decide) (by decide) (fun h345 => ?_) (fun h345 => ?_)
                                · have _q := h345
                                  refine jx_ld (pc' := 141) (l' := L339) (st' := [.ref 66]) rfl (jl_aloadn gL339_0) ?_
                                  refine jx_ld (pc' := 142) (l' := L339) (st' := [.int (i32 (vi)), .ref 66]) rfl (jl_iloadn gL339_2) ?_
                                  refine jr_put (pc' := 145) (i := 29) (z := vi) rfl rfl (by decide) rfl rfl rfl rfl rfl rfl ?_
                                  have hW346 : Wk (uG G275 29 (vi)) A276 := Wk_g hW279 (show (0 : Int) ≤ vi by omega) (show vi ≤ (202 : Int) by omega)
                                  have hF347 := Fr_g (z := vi) (i := 29) hF284 (by decide)
                                  have ec348 : ecn A276 ((uG G275 29 (vi)) 31) = ec := ec292
                                  refine jx_ld (pc' := 147) (l' := L339) (st' := [.int (i32 (0))]) rfl (jl_iload gL339_5) ?_
                                  refine jx_rt (v := some (.int (i32 (0)))) rfl rfl rfl rfl rfl rfl ?_
                                  exact ⟨_, _, _, ln2_191, at2_189, fk2_278, nd, sy2_192, na2_193, vi, A 3 (ln2_191).toNat, ec, rfl, rfl, hW346, hF347, hP285, hS286, hV287, by omega, ((hF280.1 9 rfl).trans (e201)), ((hF280.1 10 rfl).trans (e199)), (e282), ((hF280.1 31 rfl).trans ((hF196.1 31 rfl).trans (fx_31))), ((hF280.1 19 rfl).trans (e202)), ((hF280.1 28 rfl).trans (e203)), rfl, (congrFun ((hF280.2 3 rfl).trans ((hF196.2 3 rfl).trans (hFx.2 3 rfl))) _), ec348, by omega, by omega, by omega, by omega, by omega, by omega, by omega, by omega, by omega, by first | exact Or.inl (⟨by omega, by omega⟩)⟩
                                · have _q := h345
                                  exact absurd h345 (by omega)
                              · have _q : True := trivial
                                exfalso
                                omega
                          · have _q : True := trivial
                            exfalso
                            omega
                        · have _q := h332
                          exact absurd h332 (by omega)
                      · have _q : True := trivial
                        exfalso
                        omega
                    · have _q := h326
                      exact absurd h326 (by omega)
              · have _q := h185
                exact absurd h185 (by omega)
            · have _q : True := trivial
              refine jx_if_ne (pc' := 52) (tg := 61) rfl rfl rfl (by decide) (by decide) (fun h349 => ?_) (fun h349 => ?_)
              · have _q := h349
                exact absurd h349 (by omega)
              · have _q := h349
                refine jx_ld (pc' := 53) (l' := L) (st' := [.ref 66]) rfl (jl_aloadn gL_0) ?_
                refine jx_ar (pc' := 55) (st' := [.int (i32 (91)), .ref 66]) rfl rfl rfl rfl ?_
                refine jx_vr (pc' := 58) (as := [.int (i32 (91))]) (st := []) rfl rfl rfl rfl ⟨rfl, rfl, Nat.le_of_ble_eq_true rfl⟩ rfl rfl (c_is (dd := d) (hd := by omega) (hW := hWx) (k := 91) (tk := tk1) (e_tk := show Gx 11 = tk1 from (ex_tk1)) (tn := Gx 13) (e_tn := show Gx 13 = Gx 13 from rfl)  (h_k := ⟨(by decide), (by decide)⟩)  ) (fun o V' hq => ?_)
                obtain ⟨r350, rfl, rfl, b351, q352⟩ := hq
                refine .inr ⟨_, rfl, ?_⟩
                rcases q352 with ⟨rfl, a353, a354, a355⟩ | rfl
                · have _q : True := trivial
                  refine jx_if_eq (pc' := 61) (tg := 98) rfl rfl rfl (by decide) (by decide) (fun h356 => ?_) (fun h356 => ?_)
                  · have _q := h356
                    exact absurd h356 (by omega)
                  · have _q := h356
                    refine jx_ld (pc' := 62) (l' := L) (st' := [.ref 66]) rfl (jl_aloadn gL_0) ?_
                    refine jr_get (pc' := 65) (i := 19) (v := .int (i32 (sy1))) rfl rfl (by decide) (rFv_eq (by decide) (show Gx 19 = sy1 from (ex_sy1))) rfl ?_
                    refine jx_ld (pc' := 67) (l' := jSto1 L 5 (.int (i32 (sy1)))) (st' := []) rfl rfl ?_
                    obtain ⟨L357, eL357⟩ : ∃ q, q = jSto1 L 5 (.int (i32 (sy1))) := ⟨_, rfl⟩
                    rw [← eL357]
                    have gL357_0 : jGet L357 0 = some (.ref 66) := eL357 ▸ jg_ne (by decide) gL_0 rfl
                    have gL357_1 : jGet L357 1 = some (.int (i32 (lv))) := eL357 ▸ jg_ne (by decide) gL_1 rfl
                    have gL357_2 : jGet L357 2 = some (.int (i32 (vi))) := eL357 ▸ jg_ne (by decide) gL_2 rfl
                    have gL357_3 : jGet L357 3 = some (.int (i32 (sy))) := eL357 ▸ jg_ne (by decide) gL_3 rfl
                    have gL357_4 : jGet L357 4 = some (.int (i32 (dc))) := eL357 ▸ jg_ne (by decide) gL_4 rfl
                    have gL357_5 : jGet L357 5 = some (.int (i32 (sy1))) := eL357 ▸ jg_eq
                    refine jx_ld (pc' := 68) (l' := L357) (st' := [.ref 66]) rfl (jl_aloadn gL357_0) ?_
                    refine jx_vr (pc' := 71) (as := []) (st := []) rfl rfl rfl rfl ⟨rfl, rfl, Nat.le_of_ble_eq_true rfl⟩ rfl rfl (c_readDeclaration (dd := d) (hd := by omega) (hW := hWx)  (ln := ln1) (e_ln := show Gx 9 = ln1 from (ex_ln1)) (le := le1) (e_le := show Ax 4 (ln1).toNat = le1 from (ex_le1)) (at0 := at1) (e_at0 := show Gx 10 = at1 from (ex_at1)) (fk := fk1) (e_fk := show Gx 16 = fk1 from (ex_fk1)) (tk0 := tk1) (e_tk0 := show Gx 11 = tk1 from (ex_tk1)) (li := li) (e_li := show Gx 3 = li from ((hFx.1 3 rfl).trans (e_li))) (sy := sy1) (e_sy := show Gx 19 = sy1 from (ex_sy1)) (na := na1) (e_na := show Gx 28 = na1 from (ex_na1)) (vi := vi1) (e_vi := show Gx 29 = vi1 from (ex_vi1))    (p_0 := by omega) (p_1 := by omega) (p_2 := by omega) (p_3 := by omega) (p_4 := by omega)) (fun o V' hq => ?_)
                    obtain ⟨G358, A359, at2_360, fk2_361, ln2_362, sy2_363, na2_364, vi2_365, rfl, rfl, hW366, hF367, hQ368, hQ369, e370, e371, e372, e373, e374, e375, p376, p377, p378, p379, p380, p381, q382⟩ := hq
                    have hF383 := Fr_tr hFx hF367 (Fr_sub (by decide)) (Fr_sub (by decide))
                    have hP384 := Pf_f hPx hF367 (by decide)
                    have hS385 := Fx_tr hSx hQ368 (by omega)
                    have hV386 := Fx_tr hVx hQ369 (by omega)
                    have sf387 : wD A359 (sy) (sy1) := wD_fx hQ368 (by omega) iv_12
                    have sf388 : DS A359 (vi) (vi1) (sy) (sy1) := DS_fx hQ369 (by omega) iv_13
                    have ec389 : ecn A359 (G358 31) = ec := (ecn_f (hF367.2 15 rfl) (hF367.1 31 rfl)).trans fx_900
                    have bat2_360 : (0 : Int) ≤ at2_360 ∧ at2_360 ≤ 3002 := e370 ▸ hW366.1 10
                    have bfk2_361 : (0 : Int) ≤ fk2_361 ∧ fk2_361 ≤ 6 := e371 ▸ hW366.1 16
                    have bln2_362 : (0 : Int) ≤ ln2_362 ∧ ln2_362 ≤ 3000 := e372 ▸ hW366.1 9
                    have bsy2_363 : (0 : Int) ≤ sy2_363 ∧ sy2_363 ≤ 202 := e373 ▸ hW366.1 19
                    have bna2_364 : (0 : Int) ≤ na2_364 ∧ na2_364 ≤ 200 := e374 ▸ hW366.1 28
                    have bvi2_365 : (0 : Int) ≤ vi2_365 ∧ vi2_365 ≤ 202 := e375 ▸ hW366.1 29
                    refine .inl ⟨rfl, ?_⟩
                    rcases q382 with ⟨a390, a391⟩ | ⟨a392, a393, a394, a395⟩
                    · have _q : True := trivial
                      refine jx_ld (pc' := 73) (l' := L357) (st' := [.int (i32 (dc))]) rfl (jl_iload gL357_4) ?_
                      refine jx_ld (pc' := 74) (l' := L357) (st' := [.ref 66, .int (i32 (dc))]) rfl (jl_aloadn gL357_0) ?_
                      refine jr_get (pc' := 77) (i := 19) (v := .int (i32 (sy2_363))) rfl rfl (by decide) (rFv_eq (by decide) (show G358 19 = sy2_363 from (e373))) rfl ?_
                      refine jx_add (pc' := 78) rfl rfl ?_
                      refine jx_ld (pc' := 80) (l' := L357) (st' := [.int (i32 (sy1)), .int (i32 ((dc + sy2_363)))]) rfl (jl_iload gL357_5) ?_
                      refine jx_sub (pc' := 81) rfl rfl ?_
                      refine jx_ld (pc' := 83) (l' := jSto1 L357 4 (.int (i32 (((dc + sy2_363) - sy1))))) (st' := []) rfl rfl ?_
                      obtain ⟨L396, eL396⟩ : ∃ q, q = jSto1 L357 4 (.int (i32 (((dc + sy2_363) - sy1)))) := ⟨_, rfl⟩
                      rw [← eL396]
                      have gL396_0 : jGet L396 0 = some (.ref 66) := eL396 ▸ jg_ne (by decide) gL357_0 rfl
                      have gL396_1 : jGet L396 1 = some (.int (i32 (lv))) := eL396 ▸ jg_ne (by decide) gL357_1 rfl
                      have gL396_2 : jGet L396 2 = some (.int (i32 (vi))) := eL396 ▸ jg_ne (by decide) gL357_2 rfl
                      have gL396_3 : jGet L396 3 = some (.int (i32 (sy))) := eL396 ▸ jg_ne (by decide) gL357_3 rfl
                      have gL396_5 : jGet L396 5 = some (.int (i32 (sy1))) := eL396 ▸ jg_ne (by decide) gL357_5 rfl
                      have gL396_4 : jGet L396 4 = some (.int (i32 (((dc + sy2_363) - sy1)))) := eL396 ▸ jg_eq
                      refine jx_ld (pc' := 84) (l' := L396) (st' := [.ref 66]) rfl (jl_aloadn gL396_0) ?_
                      refine jx_ld (pc' := 85) (l' := L396) (st' := [.int (i32 (lv)), .ref 66]) rfl (jl_iloadn gL396_1) ?_
                      have b397 : (-1 : Int) ≤ A 5 (ln2_362).toNat ∧ A 5 (ln2_362).toNat ≤ 15 := hW.2 5 _
                      refine jx_vr (pc' := 88) (as := [.int (i32 (lv))]) (st := []) rfl rfl rfl rfl ⟨rfl, rfl, Nat.le_of_ble_eq_true rfl⟩ rfl rfl (c_needLevel (dd := d) (hd := by omega) (hW := hW366) (lv := lv) (ln := ln2_362) (e_ln := show G358 9 = ln2_362 from (e372)) (li := li) (e_li := show G358 3 = li from ((hF367.1 3 rfl).trans ((hFx.1 3 rfl).trans (e_li)))) (fk := fk2_361) (e_fk := show G358 16 = fk2_361 from (e371)) (ll := A 5 (ln2_362).toNat) (e_ll := show A359 5 (ln2_362).toNat = A 5 (ln2_362).toNat from (congrFun ((hF367.2 5 rfl).trans (hFx.2 5 rfl)) _))  (h_lv := ⟨(Int.le_trans (by decide : (-2147483648 : Int) ≤ -2147483648) h_lv.1), (Int.le_trans h_lv.2 (by decide : (2147483647 : Int) ≤ 2147483647))⟩)  ) (fun o V' hq => ?_)
                      obtain ⟨G398, A399, r400, fk2_401, rfl, rfl, hW402, hF403, b404, e405, q406⟩ := hq
                      have hF407 := Fr_tr hF383 hF403 (Fr_sub (by decide)) (Fr_sub (by decide))
                      have hP408 := Pf_f hP384 hF403 (by decide)
                      have hS409 := Fx_f hS385 hF403 (by decide)
                      have hV410 := Fx_f hV386 hF403 (by decide)
                      have sf411 : wD A399 (sy) (sy1) := wD_fx (Sg_fr (sb := sy1) hF403 (by decide)) (by omega) sf387
                      have sf412 : DS A399 (vi) (vi1) (sy) (sy1) := DS_ext (hF403.2 14 rfl) sf388
                      have ec413 : ecn A399 (G398 31) = ec := (ecn_f (hF403.2 15 rfl) (hF403.1 31 rfl)).trans ec389
                      have bfk2_401 : (0 : Int) ≤ fk2_401 ∧ fk2_401 ≤ 6 := e405 ▸ hW402.1 16
                      refine .inr ⟨_, rfl, ?_⟩
                      rcases q406 with ⟨rfl, a414, a415, a416, a417⟩ | ⟨rfl, a418⟩
                      · have _q : True := trivial
                        exfalso
                        omega
                      · have _q : True := trivial
                        refine jx_if_eq (pc' := 91) (tg := 95) rfl rfl rfl (by decide) (by decide) (fun h419 => ?_) (fun h419 => ?_)
                        · have _q := h419
                          refine jx_go (tg := 27) rfl rfl ?_
                          refine jx_ld (pc' := 28) (l' := L396) (st' := [.ref 66]) rfl (jl_aloadn gL396_0) ?_
                          refine jx_vr (pc' := 31) (as := []) (st := []) rfl rfl rfl rfl ⟨rfl, rfl, Nat.le_of_ble_eq_true rfl⟩ rfl rfl (c_bad (dd := d) (hd := by omega) (hW := hW402)  (fk := fk2_401) (e_fk := show G398 16 = fk2_401 from (e405))    ) (fun o V' hq => ?_)
                          obtain ⟨r420, rfl, rfl, b421, q422⟩ := hq
                          refine .inr ⟨_, rfl, ?_⟩
                          rcases q422 with ⟨rfl, a423⟩ | ⟨rfl, a424⟩
                          · have _q : True := trivial
                            refine jx_if_ne (pc' := 34) (tg := 98) rfl rfl rfl (by decide) (by decide) (fun h425 => ?_) (fun h425 => ?_)
                            · have _q := h425
                              refine jx_ld (pc' := 99) (l' := L396) (st' := [.ref 66]) rfl (jl_aloadn gL396_0) ?_
                              refine jx_vr (pc' := 102) (as := []) (st := []) rfl rfl rfl rfl ⟨rfl, rfl, Nat.le_of_ble_eq_true rfl⟩ rfl rfl (c_bad (dd := d) (hd := by omega) (hW := hW402)  (fk := fk2_401) (e_fk := show G398 16 = fk2_401 from (e405))    ) (fun o V' hq => ?_)
                              obtain ⟨r426, rfl, rfl, b427, q428⟩ := hq
                              refine .inr ⟨_, rfl, ?_⟩
                              rcases q428 with ⟨rfl, a429⟩ | ⟨rfl, a430⟩
                              · have _q : True := trivial
                                refine jx_if_eq (pc' := 105) (tg := 109) rfl rfl rfl (by decide) (by decide) (fun h431 => ?_) (fun h431 => ?_)
                                · have _q := h431
                                  exact absurd h431 (by omega)
                                · have _q := h431
                                  refine jx_ar (pc' := 106) (st' := [.int (i32 (0))]) rfl rfl rfl rfl ?_
                                  refine jx_go (tg := 114) rfl rfl ?_
                                  refine jx_ld (pc' := 116) (l' := jSto1 L396 5 (.int (i32 (0)))) (st' := []) rfl rfl ?_
                                  obtain ⟨L432, eL432⟩ : ∃ q, q = jSto1 L396 5 (.int (i32 (0))) := ⟨_, rfl⟩
                                  rw [← eL432]
                                  have gL432_0 : jGet L432 0 = some (.ref 66) := eL432 ▸ jg_ne (by decide) gL396_0 rfl
                                  have gL432_1 : jGet L432 1 = some (.int (i32 (lv))) := eL432 ▸ jg_ne (by decide) gL396_1 rfl
                                  have gL432_2 : jGet L432 2 = some (.int (i32 (vi))) := eL432 ▸ jg_ne (by decide) gL396_2 rfl
                                  have gL432_3 : jGet L432 3 = some (.int (i32 (sy))) := eL432 ▸ jg_ne (by decide) gL396_3 rfl
                                  have gL432_4 : jGet L432 4 = some (.int (i32 (((dc + sy2_363) - sy1)))) := eL432 ▸ jg_ne (by decide) gL396_4 rfl
                                  have gL432_5 : jGet L432 5 = some (.int (i32 (0))) := eL432 ▸ jg_eq
                                  refine jx_ld (pc' := 117) (l' := L432) (st' := [.ref 66]) rfl (jl_aloadn gL432_0) ?_
                                  refine jx_vr (pc' := 120) (as := []) (st := []) rfl rfl rfl rfl ⟨rfl, rfl, Nat.le_of_ble_eq_true rfl⟩ rfl rfl (c_bad (dd := d) (hd := by omega) (hW := hW402)  (fk := fk2_401) (e_fk := show G398 16 = fk2_401 from (e405))    ) (fun o V' hq => ?_)
                                  obtain ⟨r433, rfl, rfl, b434, q435⟩ := hq
                                  refine .inr ⟨_, rfl, ?_⟩
                                  rcases q435 with ⟨rfl, a436⟩ | ⟨rfl, a437⟩
                                  · have _q : True := trivial
                                    refine jx_if_ne (pc' := 123) (tg := 140) rfl rfl rfl (by decide) (by decide) (fun h438 => ?_) (fun h438 => ?_)
                                    · have _q := h438
                                      refine jx_ld (pc' := 141) (l' := L432) (st' := [.ref 66]) rfl (jl_aloadn gL432_0) ?_
                                      refine jx_ld (pc' := 142) (l' := L432) (st' := [.int (i32 (vi)), .ref 66]) rfl (jl_iloadn gL432_2) ?_
                                      refine jr_put (pc' := 145) (i := 29) (z := vi) rfl rfl (by decide) rfl rfl rfl rfl rfl rfl ?_
                                      have hW439 : Wk (uG G398 29 (vi)) A399 := Wk_g hW402 (show (0 : Int) ≤ vi by omega) (show vi ≤ (202 : Int) by omega)
                                      have hF440 := Fr_g (z := vi) (i := 29) hF407 (by decide)
                                      have ec441 : ecn A399 ((uG G398 29 (vi)) 31) = ec := ec413
                                      refine jx_ld (pc' := 147) (l' := L432) (st' := [.int (i32 (0))]) rfl (jl_iload gL432_5) ?_
                                      refine jx_rt (v := some (.int (i32 (0)))) rfl rfl rfl rfl rfl rfl ?_
                                      exact ⟨_, _, _, ln2_362, at2_360, fk2_401, nd, sy2_363, na2_364, vi, A 3 (ln2_362).toNat, ec, rfl, rfl, hW439, hF440, hP408, hS409, hV410, by omega, ((hF403.1 9 rfl).trans (e372)), ((hF403.1 10 rfl).trans (e370)), (e405), ((hF403.1 31 rfl).trans ((hF367.1 31 rfl).trans (fx_31))), ((hF403.1 19 rfl).trans (e373)), ((hF403.1 28 rfl).trans (e374)), rfl, (congrFun ((hF403.2 3 rfl).trans ((hF367.2 3 rfl).trans (hFx.2 3 rfl))) _), ec441, by omega, by omega, by omega, by omega, by omega, by omega, by omega, by omega, by omega, by first | exact Or.inl (⟨by omega, by omega⟩)⟩
                                    · have _q := h438
                                      exact absurd h438 (by omega)
                                  · have _q : True := trivial
                                    exfalso
                                    omega
                              · have _q : True := trivial
                                exfalso
                                omega
                            · have _q := h425
                              exact absurd h425 (by omega)
                          · have _q : True := trivial
                            exfalso
                            omega
                        · have _q := h419
                          exact absurd h419 (by omega)
                    · have _q : True := trivial
                      have b442 : (0 : Int) ≤ A 3 (ln2_362).toNat ∧ A 3 (ln2_362).toNat ≤ 3000 := hW.2 3 _
                      have lt443 : ln2_362 < li → le1 < A 3 (ln2_362).toNat := fun hh => LT_nx (LT_ext (((hF367.1 3 rfl).trans (hFx.1 3 rfl))) (((hF367.2 3 rfl).trans (hFx.2 3 rfl))) (((hF367.2 4 rfl).trans (hFx.2 4 rfl))) i_LT) (show G358 3 = li from ((hF367.1 3 rfl).trans ((hFx.1 3 rfl).trans (e_li)))) (show A359 4 (ln1).toNat = le1 from (congrFun (hF367.2 4 rfl) _).trans (ex_le1)) (show A359 3 (ln2_362).toNat = A 3 (ln2_362).toNat from (congrFun ((hF367.2 3 rfl).trans (hFx.2 3 rfl)) _)) (show ln2_362 = ln1 + 1 by omega) (by omega) hh
                      refine jx_ld (pc' := 73) (l' := L357) (st' := [.int (i32 (dc))]) rfl (jl_iload gL357_4) ?_
                      refine jx_ld (pc' := 74) (l' := L357) (st' := [.ref 66, .int (i32 (dc))]) rfl (jl_aloadn gL357_0) ?_
                      refine jr_get (pc' := 77) (i := 19) (v := .int (i32 (sy2_363))) rfl rfl (by decide) (rFv_eq (by decide) (show G358 19 = sy2_363 from (e373))) rfl ?_
                      refine jx_add (pc' := 78) rfl rfl ?_
                      refine jx_ld (pc' := 80) (l' := L357) (st' := [.int (i32 (sy1)), .int (i32 ((dc + sy2_363)))]) rfl (jl_iload gL357_5) ?_
                      refine jx_sub (pc' := 81) rfl rfl ?_
                      refine jx_ld (pc' := 83) (l' := jSto1 L357 4 (.int (i32 (((dc + sy2_363) - sy1))))) (st' := []) rfl rfl ?_
                      obtain ⟨L444, eL444⟩ : ∃ q, q = jSto1 L357 4 (.int (i32 (((dc + sy2_363) - sy1)))) := ⟨_, rfl⟩
                      rw [← eL444]
                      have gL444_0 : jGet L444 0 = some (.ref 66) := eL444 ▸ jg_ne (by decide) gL357_0 rfl
                      have gL444_1 : jGet L444 1 = some (.int (i32 (lv))) := eL444 ▸ jg_ne (by decide) gL357_1 rfl
                      have gL444_2 : jGet L444 2 = some (.int (i32 (vi))) := eL444 ▸ jg_ne (by decide) gL357_2 rfl
                      have gL444_3 : jGet L444 3 = some (.int (i32 (sy))) := eL444 ▸ jg_ne (by decide) gL357_3 rfl
                      have gL444_5 : jGet L444 5 = some (.int (i32 (sy1))) := eL444 ▸ jg_ne (by decide) gL357_5 rfl
                      have gL444_4 : jGet L444 4 = some (.int (i32 (((dc + sy2_363) - sy1)))) := eL444 ▸ jg_eq
                      refine jx_ld (pc' := 84) (l' := L444) (st' := [.ref 66]) rfl (jl_aloadn gL444_0) ?_
                      refine jx_ld (pc' := 85) (l' := L444) (st' := [.int (i32 (lv)), .ref 66]) rfl (jl_iloadn gL444_1) ?_
                      have b445 : (-1 : Int) ≤ A 5 (ln2_362).toNat ∧ A 5 (ln2_362).toNat ≤ 15 := hW.2 5 _
                      refine jx_vr (pc' := 88) (as := [.int (i32 (lv))]) (st := []) rfl rfl rfl rfl ⟨rfl, rfl, Nat.le_of_ble_eq_true rfl⟩ rfl rfl (c_needLevel (dd := d) (hd := by omega) (hW := hW366) (lv := lv) (ln := ln2_362) (e_ln := show G358 9 = ln2_362 from (e372)) (li := li) (e_li := show G358 3 = li from ((hF367.1 3 rfl).trans ((hFx.1 3 rfl).trans (e_li)))) (fk := fk2_361) (e_fk := show G358 16 = fk2_361 from (e371)) (ll := A 5 (ln2_362).toNat) (e_ll := show A359 5 (ln2_362).toNat = A 5 (ln2_362).toNat from (congrFun ((hF367.2 5 rfl).trans (hFx.2 5 rfl)) _))  (h_lv := ⟨(Int.le_trans (by decide : (-2147483648 : Int) ≤ -2147483648) h_lv.1), (Int.le_trans h_lv.2 (by decide : (2147483647 : Int) ≤ 2147483647))⟩)  ) (fun o V' hq => ?_)
                      obtain ⟨G446, A447, r448, fk2_449, rfl, rfl, hW450, hF451, b452, e453, q454⟩ := hq
                      have hF455 := Fr_tr hF383 hF451 (Fr_sub (by decide)) (Fr_sub (by decide))
                      have hP456 := Pf_f hP384 hF451 (by decide)
                      have hS457 := Fx_f hS385 hF451 (by decide)
                      have hV458 := Fx_f hV386 hF451 (by decide)
                      have sf459 : wD A447 (sy) (sy1) := wD_fx (Sg_fr (sb := sy1) hF451 (by decide)) (by omega) sf387
                      have sf460 : DS A447 (vi) (vi1) (sy) (sy1) := DS_ext (hF451.2 14 rfl) sf388
                      have sf461 : wD A447 (sy1) (sy2_363) := wD_fx (Sg_fr (sb := sy2_363) hF451 (by decide)) (by omega) a394
                      have sf462 : DS A447 (vi1) (vi2_365) (sy1) (sy2_363) := DS_ext (hF451.2 14 rfl) a395
                      have ec463 : ecn A447 (G446 31) = ec := (ecn_f (hF451.2 15 rfl) (hF451.1 31 rfl)).trans ec389
                      have bfk2_449 : (0 : Int) ≤ fk2_449 ∧ fk2_449 ≤ 6 := e453 ▸ hW450.1 16
                      refine .inr ⟨_, rfl, ?_⟩
                      rcases q454 with ⟨rfl, a464, a465, a466, a467⟩ | ⟨rfl, a468⟩
                      · have _q : True := trivial
                        have b469 : (0 : Int) ≤ A 4 (ln2_362).toNat ∧ A 4 (ln2_362).toNat ≤ 3000 := hW.2 4 _
                        have lt470 : A 3 (ln2_362).toNat < A 4 (ln2_362).toNat := LT_at (LT_ext (((hF451.1 3 rfl).trans ((hF367.1 3 rfl).trans (hFx.1 3 rfl)))) (((hF451.2 3 rfl).trans ((hF367.2 3 rfl).trans (hFx.2 3 rfl)))) (((hF451.2 4 rfl).trans ((hF367.2 4 rfl).trans (hFx.2 4 rfl)))) i_LT) (show G446 3 = li from ((hF451.1 3 rfl).trans ((hF367.1 3 rfl).trans ((hFx.1 3 rfl).trans (e_li))))) (show A447 3 (ln2_362).toNat = A 3 (ln2_362).toNat from (congrFun ((hF451.2 3 rfl).trans ((hF367.2 3 rfl).trans (hFx.2 3 rfl))) _)) (show A447 4 (ln2_362).toNat = A 4 (ln2_362).toNat from (congrFun ((hF451.2 4 rfl).trans ((hF367.2 4 rfl).trans (hFx.2 4 rfl))) _)) (by omega) (by omega)
                        refine jx_if_eq (pc' := 91) (tg := 95) rfl rfl rfl (by decide) (by decide) (fun h471 => ?_) (fun h471 => ?_)
                        · have _q := h471
                          exact absurd h471 (by omega)
                        · have _q := h471
                          refine jx_ld (pc' := 92) (l' := L444) (st' := [.ref 66]) rfl (jl_aloadn gL444_0) ?_
                          refine jx_vr (pc' := 95) (as := []) (st := []) rfl rfl rfl rfl ⟨rfl, rfl, Nat.le_of_ble_eq_true rfl⟩ rfl rfl (c_openLine (dd := d) (hd := by omega) (hW := hW450)  (ln := ln2_362) (e_ln := show G446 9 = ln2_362 from ((hF451.1 9 rfl).trans (e372))) (le := A 4 (ln2_362).toNat) (e_le := show A447 4 (ln2_362).toNat = A 4 (ln2_362).toNat from (congrFun ((hF451.2 4 rfl).trans ((hF367.2 4 rfl).trans (hFx.2 4 rfl))) _)) (lf := A 3 (ln2_362).toNat) (e_lf := show A447 3 (ln2_362).toNat = A 3 (ln2_362).toNat from (congrFun ((hF451.2 3 rfl).trans ((hF367.2 3 rfl).trans (hFx.2 3 rfl))) _))    (p_0 := by omega)) (fun o V' hq => ?_)
                          obtain ⟨G472, A473, at2_474, tk2_475, op2_476, rfl, rfl, hW477, hF478, e479, e480, e481, p482, p483, p484, p485, -⟩ := hq
                          have hF487 := Fr_tr hF455 hF478 (Fr_sub (by decide)) (Fr_sub (by decide))
                          have hP488 := Pf_f hP456 hF478 (by decide)
                          have hS489 := Fx_f hS457 hF478 (by decide)
                          have hV490 := Fx_f hV458 hF478 (by decide)
                          have sf491 : wD A473 (sy) (sy1) := wD_fx (Sg_fr (sb := sy1) hF478 (by decide)) (by omega) sf459
                          have sf492 : DS A473 (vi) (vi1) (sy) (sy1) := DS_ext (hF478.2 14 rfl) sf460
                          have sf493 : wD A473 (sy1) (sy2_363) := wD_fx (Sg_fr (sb := sy2_363) hF478 (by decide)) (by omega) sf461
                          have sf494 : DS A473 (vi1) (vi2_365) (sy1) (sy2_363) := DS_ext (hF478.2 14 rfl) sf462
                          have ec495 : ecn A473 (G472 31) = ec := (ecn_f (hF478.2 15 rfl) (hF478.1 31 rfl)).trans ec463
                          have bat2_474 : (0 : Int) ≤ at2_474 ∧ at2_474 ≤ 3002 := e479 ▸ hW477.1 10
                          have ztk2_475 := tz_b tk2_475
                          have btk2_475 : (0 : Int) ≤ tk2_475 ∧ tk2_475 ≤ 5 := e480 ▸ hW477.1 11
                          have bop2_476 : (-2147483648 : Int) ≤ op2_476 ∧ op2_476 ≤ 2147483647 := e481 ▸ hW477.1 15
                          refine .inl ⟨rfl, ?_⟩
                          refine jx_go (tg := 27) rfl rfl ?_
                          have z496 := tz_f (tk2_475)
                          exact ih27 _ (by omega) L444 G472 A473 (((dc + sy2_363) - sy1)) (ln2_362) (at2_474) (tk2_475) (fk2_449) (op2_476) (sy2_363) (na2_364) (vi2_365) (A 4 (ln2_362).toNat) rfl gL444_0 gL444_1 gL444_2 gL444_3 gL444_4 hW477 hF487 hP488 hS489 hV490 (((hF478.1 9 rfl).trans ((hF451.1 9 rfl).trans (e372)))) ((e479)) ((e480)) (((hF478.1 16 rfl).trans (e453))) ((e481)) (((hF478.1 19 rfl).trans ((hF451.1 19 rfl).trans (e373)))) (((hF478.1 28 rfl).trans ((hF451.1 28 rfl).trans (e374)))) (((hF478.1 29 rfl).trans ((hF451.1 29 rfl).trans (e375)))) ((congrFun ((hF478.2 4 rfl).trans ((hF451.2 4 rfl).trans ((hF367.2 4 rfl).trans (hFx.2 4 rfl)))) _)) (((hF478.1 31 rfl).trans ((hF451.1 31 rfl).trans ((hF367.1 31 rfl).trans (fx_31))))) (ec495) (by omega) (by omega) (by omega) (by omega) (by omega) (by omega) (by omega) (by omega) (by omega) (by omega) (by omega) (by omega) (by omega) ((wD_tr sf491 sf493)) ((DS_app sf492 sf494 (by omega) (by omega)))
                      · have _q : True := trivial
                        refine jx_if_eq (pc' := 91) (tg := 95) rfl rfl rfl (by decide) (by decide) (fun h497 => ?_) (fun h497 => ?_)
                        · have _q := h497
                          refine jx_go (tg := 27) rfl rfl ?_
                          refine jx_ld (pc' := 28) (l' := L444) (st' := [.ref 66]) rfl (jl_aloadn gL444_0) ?_
                          refine jx_vr (pc' := 31) (as := []) (st := []) rfl rfl rfl rfl ⟨rfl, rfl, Nat.le_of_ble_eq_true rfl⟩ rfl rfl (c_bad (dd := d) (hd := by omega) (hW := hW450)  (fk := fk2_449) (e_fk := show G446 16 = fk2_449 from (e453))    ) (fun o V' hq => ?_)
                          obtain ⟨r498, rfl, rfl, b499, q500⟩ := hq
                          refine .inr ⟨_, rfl, ?_⟩
                          rcases q500 with ⟨rfl, a501⟩ | ⟨rfl, a502⟩
                          · have _q : True := trivial
                            refine jx_if_ne (pc' := 34) (tg := 98) rfl rfl rfl (by decide) (by decide) (fun h503 => ?_) (fun h503 => ?_)
                            · have _q := h503
                              refine jx_ld (pc' := 99) (l' := L444) (st' := [.ref 66]) rfl (jl_aloadn gL444_0) ?_
                              refine jx_vr (pc' := 102) (as := []) (st := []) rfl rfl rfl rfl ⟨rfl, rfl, Nat.le_of_ble_eq_true rfl⟩ rfl rfl (c_bad (dd := d) (hd := by omega) (hW := hW450)  (fk := fk2_449) (e_fk := show G446 16 = fk2_449 from (e453))    ) (fun o V' hq => ?_)
                              obtain ⟨r504, rfl, rfl, b505, q506⟩ := hq
                              refine .inr ⟨_, rfl, ?_⟩
                              rcases q506 with ⟨rfl, a507⟩ | ⟨rfl, a508⟩
                              · have _q : True := trivial
                                refine jx_if_eq (pc' := 105) (tg := 109) rfl rfl rfl (by decide) (by decide) (fun h509 => ?_) (fun h509 => ?_)
                                · have _q := h509
                                  exact absurd h509 (by omega)
                                · have _q := h509
                                  refine jx_ar (pc' := 106) (st' := [.int (i32 (0))]) rfl rfl rfl rfl ?_
                                  refine jx_go (tg := 114) rfl rfl ?_
                                  refine jx_ld (pc' := 116) (l' := jSto1 L444 5 (.int (i32 (0)))) (st' := []) rfl rfl ?_
                                  obtain ⟨L510, eL510⟩ : ∃ q, q = jSto1 L444 5 (.int (i32 (0))) := ⟨_, rfl⟩
                                  rw [← eL510]
                                  have gL510_0 : jGet L510 0 = some (.ref 66) := eL510 ▸ jg_ne (by decide) gL444_0 rfl
                                  have gL510_1 : jGet L510 1 = some (.int (i32 (lv))) := eL510 ▸ jg_ne (by decide) gL444_1 rfl
                                  have gL510_2 : jGet L510 2 = some (.int (i32 (vi))) := eL510 ▸ jg_ne (by decide) gL444_2 rfl
                                  have gL510_3 : jGet L510 3 = some (.int (i32 (sy))) := eL510 ▸ jg_ne (by decide) gL444_3 rfl
                                  have gL510_4 : jGet L510 4 = some (.int (i32 (((dc + sy2_363) - sy1)))) := eL510 ▸ jg_ne (by decide) gL444_4 rfl
                                  have gL510_5 : jGet L510 5 = some (.int (i32 (0))) := eL510 ▸ jg_eq
                                  refine jx_ld (pc' := 117) (l' := L510) (st' := [.ref 66]) rfl (jl_aloadn gL510_0) ?_
                                  refine jx_vr (pc' := 120) (as := []) (st := []) rfl rfl rfl rfl ⟨rfl, rfl, Nat.le_of_ble_eq_true rfl⟩ rfl rfl (c_bad (dd := d) (hd := by omega) (hW := hW450)  (fk := fk2_449) (e_fk := show G446 16 = fk2_449 from (e453))    ) (fun o V' hq => ?_)
                                  obtain ⟨r511, rfl, rfl, b512, q513⟩ := hq
                                  refine .inr ⟨_, rfl, ?_⟩
                                  rcases q513 with ⟨rfl, a514⟩ | ⟨rfl, a515⟩
                                  · have _q : True := trivial
                                    refine jx_if_ne (pc' := 123) (tg := 140) rfl rfl rfl (by decide) (by decide) (fun h516 => ?_) (fun h516 => ?_)
                                    · have _q := h516
                                      refine jx_ld (pc' := 141) (l' := L510) (st' := [.ref 66]) rfl (jl_aloadn gL510_0) ?_
                                      refine jx_ld (pc' := 142) (l' := L510) (st' := [.int (i32 (vi)), .ref 66]) rfl (jl_iloadn gL510_2) ?_
                                      refine jr_put (pc' := 145) (i := 29) (z := vi) rfl rfl (by decide) rfl rfl rfl rfl rfl rfl ?_
                                      have hW517 : Wk (uG G446 29 (vi)) A447 := Wk_g hW450 (show (0 : Int) ≤ vi by omega) (show vi ≤ (202 : Int) by omega)
                                      have hF518 := Fr_g (z := vi) (i := 29) hF455 (by decide)
                                      have ec519 : ecn A447 ((uG G446 29 (vi)) 31) = ec := ec463
                                      refine jx_ld (pc' := 147) (l' := L510) (st' := [.int (i32 (0))]) rfl (jl_iload gL510_5) ?_
                                      refine jx_rt (v := some (.int (i32 (0)))) rfl rfl rfl rfl rfl rfl ?_
                                      exact ⟨_, _, _, ln2_362, at2_360, fk2_449, nd, sy2_363, na2_364, vi, A 3 (ln2_362).toNat, ec, rfl, rfl, hW517, hF518, hP456, hS457, hV458, by omega, ((hF451.1 9 rfl).trans (e372)), ((hF451.1 10 rfl).trans (e370)), (e453), ((hF451.1 31 rfl).trans ((hF367.1 31 rfl).trans (fx_31))), ((hF451.1 19 rfl).trans (e373)), ((hF451.1 28 rfl).trans (e374)), rfl, (congrFun ((hF451.2 3 rfl).trans ((hF367.2 3 rfl).trans (hFx.2 3 rfl))) _), ec519, by omega, by omega, by omega, by omega, by omega, by omega, by omega, by omega, by omega, by first | exact Or.inl (⟨by omega, by omega⟩)⟩
                                    · have _q := h516
                                      exact absurd h516 (by omega)
                                  · have _q : True := trivial
                                    exfalso
                                    omega
                              · have _q : True := trivial
                                exfalso
                                omega
                            · have _q := h503
                              exact absurd h503 (by omega)
                          · have _q : True := trivial
                            exfalso
                            omega
                        · have _q := h497
                          exact absurd h497 (by omega)
                · have _q : True := trivial
                  refine jx_if_eq (pc' := 61) (tg := 98) rfl rfl rfl (by decide) (by decide) (fun h520 => ?_) (fun h520 => ?_)
                  · have _q := h520
                    refine jx_ld (pc' := 99) (l' := L) (st' := [.ref 66]) rfl (jl_aloadn gL_0) ?_
                    refine jx_vr (pc' := 102) (as := []) (st := []) rfl rfl rfl rfl ⟨rfl, rfl, Nat.le_of_ble_eq_true rfl⟩ rfl rfl (c_bad (dd := d) (hd := by omega) (hW := hWx)  (fk := fk1) (e_fk := show Gx 16 = fk1 from (ex_fk1))    ) (fun o V' hq => ?_)
                    obtain ⟨r521, rfl, rfl, b522, q523⟩ := hq
                    refine .inr ⟨_, rfl, ?_⟩
                    rcases q523 with ⟨rfl, a524⟩ | ⟨rfl, a525⟩
                    · have _q : True := trivial
                      exfalso
                      omega
                    · have _q : True := trivial
                      refine jx_if_eq (pc' := 105) (tg := 109) rfl rfl rfl (by decide) (by decide) (fun h526 => ?_) (fun h526 => ?_)
                      · have _q := h526
                        refine jx_ld (pc' := 110) (l' := L) (st' := [.ref 66]) rfl (jl_aloadn gL_0) ?_
                        refine jx_ld (pc' := 111) (l' := L) (st' := [.int (i32 (lv)), .ref 66]) rfl (jl_iloadn gL_1) ?_
                        refine jx_vr (pc' := 114) (as := [.int (i32 (lv))]) (st := []) rfl rfl rfl rfl ⟨rfl, rfl, Nat.le_of_ble_eq_true rfl⟩ rfl rfl (c_readStatement_w (dd := d) (hP := hP) (hd := by omega) (hW := hWx) (lv := lv) (ln := ln1) (e_ln := show Gx 9 = ln1 from (ex_ln1)) (li := li) (e_li := show Gx 3 = li from ((hFx.1 3 rfl).trans (e_li))) (at0 := at1) (e_at0 := show Gx 10 = at1 from (ex_at1)) (fk := fk1) (e_fk := show Gx 16 = fk1 from (ex_fk1)) (nd := nd) (e_nd := show Gx 31 = nd from (fx_31)) (sy := sy1) (e_sy := show Gx 19 = sy1 from (ex_sy1)) (na := na1) (e_na := show Gx 28 = na1 from (ex_na1)) (vi := vi1) (e_vi := show Gx 29 = vi1 from (ex_vi1)) (le := le1) (e_le := show Ax 4 (ln1).toNat = le1 from (ex_le1)) (op0 := op1) (e_op0 := show Gx 15 = op1 from (ex_op1)) (tk0 := tk1) (e_tk0 := show Gx 11 = tk1 from (ex_tk1)) (ec := ec) (e_ec := show ecn Ax (Gx 31) = ec from fx_900) (i_LT := (LT_ext ((hFx.1 3 rfl)) ((hFx.2 3 rfl)) ((hFx.2 4 rfl)) i_LT)) (i_SV := (SV_dec (s0 := sy) (s1 := sy1) i_SV e_vi (show Gx 29 = vi1 from (ex_vi1)) (by omega) hVx iv_13 (by omega))) (i_PQ := (PQ_dec (s0 := sy) (s1 := sy1) i_PQ hSx (by omega) (by omega) (hFx.2 29 rfl) (hFx.2 30 rfl) iv_12 hvb)) (hvb := (VB_d (s0 := sy) (s1 := sy1) hvb (by omega))) (h_lv := ⟨(Int.le_trans (by decide : (-2147483648 : Int) ≤ -2147483648) h_lv.1), (Int.le_trans h_lv.2 (by decide : (2147483647 : Int) ≤ 2147483647))⟩)  (p_0 := by omega) (p_1 := by omega) (p_2 := by omega) (p_3 := by omega) (p_4 := by omega) (p_5 := by omega) (p_6 := by omega) (p_7 := by omega) (p_8 := by omega) (p_9 := by omega)) (fun o V' hq => ?_)
                        obtain ⟨G527, A528, r529, ln2_530, at2_531, fk2_532, nd2_533, sy2_534, na2_535, vi2_536, lf2_537, ec2_538, rfl, rfl, hW539, hF540, hQ541, hQ542, hQ543, b544, e545, e546, e547, e548, e549, e550, e551, e552, e553, p554, p555, p556, p557, p558, p559, p560, p561, p562, p563, q564⟩ := hq
                        have hF565 := Fr_tr hFx hF540 (Fr_sub (by decide)) (Fr_sub (by decide))
                        have hP566 := Pf_tr hPx hQ541 (by omega)
                        have hS567 := Fx_tr hSx hQ542 (by omega)
                        have hV568 := Fx_tr hVx hQ543 (by omega)
                        have sf569 : wD A528 (sy) (sy1) := wD_fx hQ542 (by omega) iv_12
                        have sf570 : DS A528 (vi) (vi1) (sy) (sy1) := DS_fx hQ543 (by omega) iv_13
                        have bln2_530 : (0 : Int) ≤ ln2_530 ∧ ln2_530 ≤ 3000 := e545 ▸ hW539.1 9
                        have bat2_531 : (0 : Int) ≤ at2_531 ∧ at2_531 ≤ 3002 := e546 ▸ hW539.1 10
                        have bfk2_532 : (0 : Int) ≤ fk2_532 ∧ fk2_532 ≤ 6 := e547 ▸ hW539.1 16
                        have bnd2_533 : (0 : Int) ≤ nd2_533 ∧ nd2_533 ≤ 6999 := e548 ▸ hW539.1 31
                        have bsy2_534 : (0 : Int) ≤ sy2_534 ∧ sy2_534 ≤ 202 := e549 ▸ hW539.1 19
                        have bna2_535 : (0 : Int) ≤ na2_535 ∧ na2_535 ≤ 200 := e550 ▸ hW539.1 28
                        have bvi2_536 : (0 : Int) ≤ vi2_536 ∧ vi2_536 ≤ 202 := e551 ▸ hW539.1 29
                        have blf2_537 : (0 : Int) ≤ lf2_537 ∧ lf2_537 ≤ 3000 := e552 ▸ hW539.2 3 _
                        refine .inr ⟨_, rfl, ?_⟩
                        rcases q564 with ⟨a571, a572⟩ | ⟨a573, a574, a575, a576, a577, a578, a579, a580, a581, a582, a583⟩
                        · have _q : True := trivial
                          refine jx_ld (pc' := 116) (l' := jSto1 L 5 (.int (i32 (r529)))) (st' := []) rfl rfl ?_
                          obtain ⟨L584, eL584⟩ : ∃ q, q = jSto1 L 5 (.int (i32 (r529))) := ⟨_, rfl⟩
                          rw [← eL584]
                          have gL584_0 : jGet L584 0 = some (.ref 66) := eL584 ▸ jg_ne (by decide) gL_0 rfl
                          have gL584_1 : jGet L584 1 = some (.int (i32 (lv))) := eL584 ▸ jg_ne (by decide) gL_1 rfl
                          have gL584_2 : jGet L584 2 = some (.int (i32 (vi))) := eL584 ▸ jg_ne (by decide) gL_2 rfl
                          have gL584_3 : jGet L584 3 = some (.int (i32 (sy))) := eL584 ▸ jg_ne (by decide) gL_3 rfl
                          have gL584_4 : jGet L584 4 = some (.int (i32 (dc))) := eL584 ▸ jg_ne (by decide) gL_4 rfl
                          have gL584_5 : jGet L584 5 = some (.int (i32 (r529))) := eL584 ▸ jg_eq
                          refine jx_ld (pc' := 117) (l' := L584) (st' := [.ref 66]) rfl (jl_aloadn gL584_0) ?_
                          refine jx_vr (pc' := 120) (as := []) (st := []) rfl rfl rfl rfl ⟨rfl, rfl, Nat.le_of_ble_eq_true rfl⟩ rfl rfl (c_bad (dd := d) (hd := by omega) (hW := hW539)  (fk := fk2_532) (e_fk := show G527 16 = fk2_532 from (e547))    ) (fun o V' hq => ?_)
                          obtain ⟨r585, rfl, rfl, b586, q587⟩ := hq
                          refine .inr ⟨_, rfl, ?_⟩
                          rcases q587 with ⟨rfl, a588⟩ | ⟨rfl, a589⟩
                          · have _q : True := trivial
                            refine jx_if_ne (pc' := 123) (tg := 140) rfl rfl rfl (by decide) (by decide) (fun h590 => ?_) (fun h590 => ?_)
                            · have _q := h590
                              refine jx_ld (pc' := 141) (l' := L584) (st' := [.ref 66]) rfl (jl_aloadn gL584_0) ?_
                              refine jx_ld (pc' := 142) (l' := L584) (st' := [.int (i32 (vi)), .ref 66]) rfl (jl_iloadn gL584_2) ?_
                              refine jr_put (pc' := 145) (i := 29) (z := vi) rfl rfl (by decide) rfl rfl rfl rfl rfl rfl ?_
                              have hW591 : Wk (uG G527 29 (vi)) A528 := Wk_g hW539 (show (0 : Int) ≤ vi by omega) (show vi ≤ (202 : Int) by omega)
                              have hF592 := Fr_g (z := vi) (i := 29) hF565 (by decide)
                              have ec593 : ecn A528 ((uG G527 29 (vi)) 31) = ec2_538 := e553
                              refine jx_ld (pc' := 147) (l' := L584) (st' := [.int (i32 (r529))]) rfl (jl_iload gL584_5) ?_
                              refine jx_rt (v := some (.int (i32 (r529)))) rfl rfl rfl rfl rfl rfl ?_
                              exact ⟨_, _, _, ln2_530, at2_531, fk2_532, nd2_533, sy2_534, na2_535, vi, lf2_537, ec2_538, rfl, rfl, hW591, hF592, hP566, hS567, hV568, by omega, (e545), (e546), (e547), (e548), (e549), (e550), rfl, (e552), ec593, by omega, by omega, by omega, by omega, by omega, by omega, by omega, by omega, by omega, by first | exact Or.inl (⟨by omega, by omega⟩)⟩
                            · have _q := h590
                              exact absurd h590 (by omega)
                          · have _q : True := trivial
                            exfalso
                            omega
                        · have _q : True := trivial
                          refine jx_ld (pc' := 116) (l' := jSto1 L 5 (.int (i32 (r529)))) (st' := []) rfl rfl ?_
                          obtain ⟨L594, eL594⟩ : ∃ q, q = jSto1 L 5 (.int (i32 (r529))) := ⟨_, rfl⟩
                          rw [← eL594]
                          have gL594_0 : jGet L594 0 = some (.ref 66) := eL594 ▸ jg_ne (by decide) gL_0 rfl
                          have gL594_1 : jGet L594 1 = some (.int (i32 (lv))) := eL594 ▸ jg_ne (by decide) gL_1 rfl
                          have gL594_2 : jGet L594 2 = some (.int (i32 (vi))) := eL594 ▸ jg_ne (by decide) gL_2 rfl
                          have gL594_3 : jGet L594 3 = some (.int (i32 (sy))) := eL594 ▸ jg_ne (by decide) gL_3 rfl
                          have gL594_4 : jGet L594 4 = some (.int (i32 (dc))) := eL594 ▸ jg_ne (by decide) gL_4 rfl
                          have gL594_5 : jGet L594 5 = some (.int (i32 (r529))) := eL594 ▸ jg_eq
                          refine jx_ld (pc' := 117) (l' := L594) (st' := [.ref 66]) rfl (jl_aloadn gL594_0) ?_
                          refine jx_vr (pc' := 120) (as := []) (st := []) rfl rfl rfl rfl ⟨rfl, rfl, Nat.le_of_ble_eq_true rfl⟩ rfl rfl (c_bad (dd := d) (hd := by omega) (hW := hW539)  (fk := fk2_532) (e_fk := show G527 16 = fk2_532 from (e547))    ) (fun o V' hq => ?_)
                          obtain ⟨r595, rfl, rfl, b596, q597⟩ := hq
                          refine .inr ⟨_, rfl, ?_⟩
                          rcases q597 with ⟨rfl, a598⟩ | ⟨rfl, a599⟩
                          · have _q : True := trivial
                            exfalso
                            omega
                          · have _q : True := trivial
                            refine jx_if_ne (pc' := 123) (tg := 140) rfl rfl rfl (by decide) (by decide) (fun h600 => ?_) (fun h600 => ?_)
                            · have _q := h600
                              exact absurd h600 (by omega)
                            · have _q := h600
                              refine jx_ld (pc' := 124) (l' := L594) (st' := [.ref 66]) rfl (jl_aloadn gL594_0) ?_
                              refine jr_get (pc' := 127) (i := 40) (v := .ref 90) rfl rfl (by decide) rfl rfl ?_
                              refine jx_ld (pc' := 129) (l' := L594) (st' := [.int (i32 (r529)), .ref 90]) rfl (jl_iload gL594_5) ?_
                              refine jx_ld (pc' := 130) (l' := L594) (st' := [.int (i32 (sy)), .int (i32 (r529)), .ref 90]) rfl (jl_iloadn gL594_3) ?_
                              refine jr_st (pc' := 131) (i := 23) (m := 7000) (z := r529) (y := sy) rfl (by decide) rfl (by decide) (by omega) (by omega) rfl ?_
                              have hW602 : Wk G527 (uA A528 23 (r529).toNat (sy)) := Wk_a hW539 (show (-2147483648 : Int) ≤ sy by omega) (show sy ≤ (2147483647 : Int) by omega)
                              have hF603 := Fr_a (z := sy) (k := 23) (n := (r529).toNat) hF565 (by decide)
                              obtain ⟨A601, eA601⟩ : ∃ q, q = uA A528 23 (r529).toNat (sy) := ⟨_, rfl⟩
                              rw [← eA601]
                              rw [← eA601] at hW602 hF603
                              have q604 : A601 23 (r529).toNat = sy := by rw [eA601]; exact uA_eq
                              have hP605 : Pf nd A A601 := eA601 ▸ Pf_a hP566 (z := r529) (by omega) (by omega)
                              have hS606 : Fx sr (sy) A A601 := eA601 ▸ Fx_n hS567 rfl
                              have hV607 : Fx [14] (vi) A A601 := eA601 ▸ Fx_n hV568 rfl
                              have sf608 : wD A601 (sy) (sy1) := wD_fx (Sg_ne (sb := sy1) eA601 rfl) (by omega) sf569
                              have sf609 : DS A601 (vi) (vi1) (sy) (sy1) := DS_ext ((congrFun eA601 14).trans (uA_ne (by decide))) sf570
                              have sf610 : NX A601 (r529) := NX_r eA601 (by decide) a581
                              have ec611 : ecn A601 (G527 31) = ec2_538 := (ecn_e ((congrFun eA601 15).trans (uA_ne (by decide)))).trans e553
                              refine jx_ld (pc' := 132) (l' := L594) (st' := [.ref 66]) rfl (jl_aloadn gL594_0) ?_
                              refine jr_get (pc' := 135) (i := 41) (v := .ref 91) rfl rfl (by decide) rfl rfl ?_
                              refine jx_ld (pc' := 137) (l' := L594) (st' := [.int (i32 (r529)), .ref 91]) rfl (jl_iload gL594_5) ?_
                              refine jx_ld (pc' := 139) (l' := L594) (st' := [.int (i32 (dc)), .int (i32 (r529)), .ref 91]) rfl (jl_iload gL594_4) ?_
                              refine jr_st (pc' := 140) (i := 24) (m := 7000) (z := r529) (y := dc) rfl (by decide) rfl (by decide) (by omega) (by omega) rfl ?_
                              have hW613 : Wk G527 (uA A601 24 (r529).toNat (dc)) := Wk_a hW602 (show (-2147483648 : Int) ≤ dc by omega) (show dc ≤ (2147483647 : Int) by omega)
                              have hF614 := Fr_a (z := dc) (k := 24) (n := (r529).toNat) hF603 (by decide)
                              obtain ⟨A612, eA612⟩ : ∃ q, q = uA A601 24 (r529).toNat (dc) := ⟨_, rfl⟩
                              rw [← eA612]
                              rw [← eA612] at hW613 hF614
                              have q615 : A612 24 (r529).toNat = dc := by rw [eA612]; exact uA_eq
                              have hP616 : Pf nd A A612 := eA612 ▸ Pf_a hP605 (z := r529) (by omega) (by omega)
                              have hS617 : Fx sr (sy) A A612 := eA612 ▸ Fx_n hS606 rfl
                              have hV618 : Fx [14] (vi) A A612 := eA612 ▸ Fx_n hV607 rfl
                              have sf619 : wD A612 (sy) (sy1) := wD_fx (Sg_ne (sb := sy1) eA612 rfl) (by omega) sf608
                              have sf620 : DS A612 (vi) (vi1) (sy) (sy1) := DS_ext ((congrFun eA612 14).trans (uA_ne (by decide))) sf609
                              have sf621 : wP A612 (sy2_534) pb (k + 1) (Vs) (r529) (nd) (nd2_533) (sy) (sy2_534) := wP_mk eA601 eA612 (by omega) (by omega) (by omega) (by omega) (by omega) (by omega) (by omega) (by omega) sf569 a580
                              have sf622 : NX A612 (r529) := NX_r eA612 (by decide) sf610
                              have ec623 : ecn A612 (G527 31) = ec2_538 := (ecn_e ((congrFun eA612 15).trans (uA_ne (by decide)))).trans ec611
                              refine jx_ld (pc' := 141) (l' := L594) (st' := [.ref 66]) rfl (jl_aloadn gL594_0) ?_
                              refine jx_ld (pc' := 142) (l' := L594) (st' := [.int (i32 (vi)), .ref 66]) rfl (jl_iloadn gL594_2) ?_
                              refine jr_put (pc' := 145) (i := 29) (z := vi) rfl rfl (by decide) rfl rfl rfl rfl rfl rfl ?_
                              have hW624 : Wk (uG G527 29 (vi)) A612 := Wk_g hW613 (show (0 : Int) ≤ vi by omega) (show vi ≤ (202 : Int) by omega)
                              have hF625 := Fr_g (z := vi) (i := 29) hF614 (by decide)
                              have ec626 : ecn A612 ((uG G527 29 (vi)) 31) = ec2_538 := ec623
                              refine jx_ld (pc' := 147) (l' := L594) (st' := [.int (i32 (r529))]) rfl (jl_iload gL594_5) ?_
                              refine jx_rt (v := some (.int (i32 (r529)))) rfl rfl rfl rfl rfl rfl ?_
                              exact ⟨_, _, _, ln2_530, at2_531, fk2_532, nd2_533, sy2_534, na2_535, vi, lf2_537, ec2_538, rfl, rfl, hW624, hF625, hP616, hS617, hV618, by omega, (e545), (e546), (e547), (e548), (e549), (e550), rfl, (congrFun (((congrFun eA612 3).trans (uA_ne (by decide))).trans ((congrFun eA601 3).trans (uA_ne (by decide)))) _).trans (e552), ec626, by omega, by omega, by omega, by omega, by omega, by omega, by omega, by omega, by omega, by first | exact Or.inr ((⟨by omega, by omega, by omega, by omega, by omega, by omega, sf621, sf622, by omega, by omega⟩))⟩
                      · have _q := h526
                        exact absurd h526 (by omega)
                  · have _q := h520
                    exact absurd h520 (by omega)
set_option maxRecDepth 20000 in
set_option maxHeartbeats 4000000 in
theorem c_readProcess_s_w {X : jX} {k : Nat} (hP : RPw X k) {dd : Nat} {Vs : Nat → Prop} {sb pb : Int} (hvb : VB Vs sb) {c0 c1 : jC} {G : Nat → Int} {A : Nat → Nat → Int} {T : jH} {lv : Int} {at0 : Int} {ln li fk nd sy na vi lf ac ec : Int} (hd : 8 * (k + 1) + 80 ≤ dd) (hW : Wk G A) (e_ln : G 9 = ln) (e_li : G 3 = li) (e_fk : G 16 = fk) (e_nd : G 31 = nd) (e_sy : G 19 = sy) (e_na : G 28 = na) (e_vi : G 29 = vi) (e_lf : A 3 (ln).toNat = lf) (e_ac : G 10 = ac) (e_ec : ecn A (G 31) = ec) (i_LT : LT G A) (i_SV : SV Vs sb G A) (i_PQ : PQ Vs sb pb G A) (h_lv : (-2147483648 : Int) ≤ lv ∧ lv ≤ 2147483647) (p_0 : 0 ≤ lv ∧ lv ≤ 40) (p_1 : 18 - lv ≤ ((k + 1 : Nat) : Int)) (p_2 : fk = 0) (p_3 : ln ≤ li) (p_4 : at0 < lf ∨ li ≤ ln) (p_5 : nd ≤ 2 * at0 + 32) (p_6 : sy ≤ na + 2) (p_7 : vi ≤ sy) (p_8 : at0 ≤ ac) (p_9 : -1 ≤ at0) (p_10 : sb ≤ sy) : wk X dd 292 [.ref 66, .int (i32 lv)] (rV c0 c1 G A T) (fun o V' => ∃ (G' : Nat → Int) (A' : Nat → Nat → Int) (r : Int) (ln2 : Int) (at2 : Int) (fk2 : Int) (nd2 : Int) (sy2 : Int) (na2 : Int) (vi2 : Int) (lf2 : Int) (ec2 : Int), V' = rV c0 c1 G' A' T ∧ o = .inl (some (.int (i32 r))) ∧ Wk G' A' ∧ Fr [9, 10, 11, 12, 13, 14, 15, 16, 17, 18, 19, 28, 29, 31] [6, 7, 8, 9, 10, 11, 12, 14, 15, 16, 17, 18, 19, 20, 21, 22, 23, 24, 28] G A G' A' ∧ Pf nd A A' ∧ Fx sr (sy) A A' ∧ Fx [14] (vi) A A' ∧ ((-2147483648 : Int) ≤ r ∧ r ≤ 2147483647) ∧ G' 9 = ln2 ∧ G' 10 = at2 ∧ G' 16 = fk2 ∧ G' 31 = nd2 ∧ G' 19 = sy2 ∧ G' 28 = na2 ∧ G' 29 = vi2 ∧ A' 3 (ln2).toNat = lf2 ∧ ecn A' (G' 31) = ec2 ∧ (at0 ≤ at2) ∧ (nd ≤ nd2) ∧ (sy ≤ sy2) ∧ (sy2 ≤ na2 + 2) ∧ (vi2 = vi) ∧ (0 ≤ r) ∧ (r ≤ 6999) ∧ (ln ≤ ln2) ∧ (ln2 ≤ li) ∧ (((1 ≤ fk2) ∧ (nd2 - nd ≤ 2 * at2 - 2 * at0 + 12)) ∨ ((fk2 = 0) ∧ (ln < ln2) ∧ (nd2 - nd ≤ 2 * at2 - 2 * at0) ∧ (at2 < lf2 ∨ li ≤ ln2) ∧ (nd ≤ r) ∧ (r < nd2) ∧ (wP A' (sy2) pb (k + 1) (Vs) (r) (nd) (nd2) (sy) (sy2)) ∧ (NX A' (r)) ∧ (nd2 - nd + 5 * (ec2 - ec) ≤ 2 * at2 - 2 * at0) ∧ (nd + 5 * ec ≤ r)))) := by
  obtain ⟨d, rfl⟩ : ∃ d, dd = d + 1 := ⟨dd - 1, by omega⟩
  refine wk_of (e := jm292) rfl (Nat.le_of_ble_eq_true rfl) ?_
  show wj X d jm292 (0, [(0, .ref 66), (1, .int (i32 (lv)))], [], rV c0 c1 G A T) _
  have hF0 : Fr [9, 10, 11, 12, 13, 14, 15, 16, 17, 18, 19, 28, 29, 31] [6, 7, 8, 9, 10, 11, 12, 14, 15, 16, 17, 18, 19, 20, 21, 22, 23, 24, 28] G A G A := Fr_rf
  have hP0 : Pf nd A A := Pf_rf
  have hS0 : Fx sr (sy) A A := Fx_rf
  have hV0 : Fx [14] (vi) A A := Fx_rf
  have b_ln : (0 : Int) ≤ ln ∧ ln ≤ 3000 := e_ln ▸ hW.1 9
  have b_li : (0 : Int) ≤ li ∧ li ≤ 3000 := e_li ▸ hW.1 3
  have b_fk : (0 : Int) ≤ fk ∧ fk ≤ 6 := e_fk ▸ hW.1 16
  have b_nd : (0 : Int) ≤ nd ∧ nd ≤ 6999 := e_nd ▸ hW.1 31
  have b_sy : (0 : Int) ≤ sy ∧ sy ≤ 202 := e_sy ▸ hW.1 19
  have b_na : (0 : Int) ≤ na ∧ na ≤ 200 := e_na ▸ hW.1 28
  have b_vi : (0 : Int) ≤ vi ∧ vi ≤ 202 := e_vi ▸ hW.1 29
  have b_lf : (0 : Int) ≤ lf ∧ lf ≤ 3000 := e_lf ▸ hW.2 3 _
  have b_ac : (0 : Int) ≤ ac ∧ ac ≤ 3002 := e_ac ▸ hW.1 10
  refine jx_ld (pc' := 1) (l' := [(0, .ref 66), (1, .int (i32 (lv)))]) (st' := [.ref 66]) rfl (jl_aloadn rfl) ?_
  refine jx_ld (pc' := 2) (l' := [(0, .ref 66), (1, .int (i32 (lv)))]) (st' := [.int (i32 (lv)), .ref 66]) rfl (jl_iloadn rfl) ?_
  have b627 : (-1 : Int) ≤ A 5 (ln).toNat ∧ A 5 (ln).toNat ≤ 15 := hW.2 5 _
  refine jx_vr (pc' := 5) (as := [.int (i32 (lv))]) (st := []) rfl rfl rfl rfl ⟨rfl, rfl, Nat.le_of_ble_eq_true rfl⟩ rfl rfl (c_needLevel (dd := d) (hd := by omega) (hW := hW) (lv := lv) (ln := ln) (e_ln := show G 9 = ln from (e_ln)) (li := li) (e_li := show G 3 = li from (e_li)) (fk := fk) (e_fk := show G 16 = fk from (e_fk)) (ll := A 5 (ln).toNat) (e_ll := show A 5 (ln).toNat = A 5 (ln).toNat from rfl)  (h_lv := ⟨(Int.le_trans (by decide : (-2147483648 : Int) ≤ -2147483648) h_lv.1), (Int.le_trans h_lv.2 (by decide : (2147483647 : Int) ≤ 2147483647))⟩)  ) (fun o V' hq => ?_)
  obtain ⟨G628, A629, r630, fk2_631, rfl, rfl, hW632, hF633, b634, e635, q636⟩ := hq
  have hF637 := Fr_tr hF0 hF633 (Fr_sub (by decide)) (Fr_sub (by decide))
  have hP638 := Pf_f hP0 hF633 (by decide)
  have hS639 := Fx_f hS0 hF633 (by decide)
  have hV640 := Fx_f hV0 hF633 (by decide)
  have ec641 : ecn A629 (G628 31) = ec := (ecn_f (hF633.2 15 rfl) (hF633.1 31 rfl)).trans e_ec
  have bfk2_631 : (0 : Int) ≤ fk2_631 ∧ fk2_631 ≤ 6 := e635 ▸ hW632.1 16
  refine .inr ⟨_, rfl, ?_⟩
  rcases q636 with ⟨rfl, a642, a643, a644, a645⟩ | ⟨rfl, a646⟩
  · have _q : True := trivial
    have b647 : (0 : Int) ≤ A 4 (ln).toNat ∧ A 4 (ln).toNat ≤ 3000 := hW.2 4 _
    have lt648 : lf < A 4 (ln).toNat := LT_at (LT_ext ((hF633.1 3 rfl)) ((hF633.2 3 rfl)) ((hF633.2 4 rfl)) i_LT) (show G628 3 = li from ((hF633.1 3 rfl).trans (e_li))) (show A629 3 (ln).toNat = lf from (congrFun (hF633.2 3 rfl) _).trans (e_lf)) (show A629 4 (ln).toNat = A 4 (ln).toNat from (congrFun (hF633.2 4 rfl) _)) (by omega) (by omega)
    refine jx_if_ne (pc' := 8) (tg := 10) rfl rfl rfl (by decide) (by decide) (fun h649 => ?_) (fun h649 => ?_)
    · have _q := h649
      refine jx_ld (pc' := 11) (l' := [(0, .ref 66), (1, .int (i32 (lv)))]) (st' := [.ref 66]) rfl (jl_aloadn rfl) ?_
      refine jr_get (pc' := 14) (i := 29) (v := .int (i32 (vi))) rfl rfl (by decide) (rFv_eq (by decide) (show G628 29 = vi from ((hF633.1 29 rfl).trans (e_vi)))) rfl ?_
      refine jx_ld (pc' := 15) (l' := jSto1 [(0, .ref 66), (1, .int (i32 (lv)))] 2 (.int (i32 (vi)))) (st' := []) rfl rfl ?_
      obtain ⟨L650, eL650⟩ : ∃ q, q = jSto1 [(0, .ref 66), (1, .int (i32 (lv)))] 2 (.int (i32 (vi))) := ⟨_, rfl⟩
      rw [← eL650]
      have gL650_0 : jGet L650 0 = some (.ref 66) := eL650 ▸ jg_ne (by decide) (rfl : jGet [(0, .ref 66), (1, .int (i32 (lv)))] 0 = some (.ref 66)) rfl
      have gL650_1 : jGet L650 1 = some (.int (i32 (lv))) := eL650 ▸ jg_ne (by decide) (rfl : jGet [(0, .ref 66), (1, .int (i32 (lv)))] 1 = some (.int (i32 (lv)))) rfl
      have gL650_2 : jGet L650 2 = some (.int (i32 (vi))) := eL650 ▸ jg_eq
      refine jx_ld (pc' := 16) (l' := L650) (st' := [.ref 66]) rfl (jl_aloadn gL650_0) ?_
      refine jr_get (pc' := 19) (i := 19) (v := .int (i32 (sy))) rfl rfl (by decide) (rFv_eq (by decide) (show G628 19 = sy from ((hF633.1 19 rfl).trans (e_sy)))) rfl ?_
      refine jx_ld (pc' := 20) (l' := jSto1 L650 3 (.int (i32 (sy)))) (st' := []) rfl rfl ?_
      obtain ⟨L651, eL651⟩ : ∃ q, q = jSto1 L650 3 (.int (i32 (sy))) := ⟨_, rfl⟩
      rw [← eL651]
      have gL651_0 : jGet L651 0 = some (.ref 66) := eL651 ▸ jg_ne (by decide) gL650_0 rfl
      have gL651_1 : jGet L651 1 = some (.int (i32 (lv))) := eL651 ▸ jg_ne (by decide) gL650_1 rfl
      have gL651_2 : jGet L651 2 = some (.int (i32 (vi))) := eL651 ▸ jg_ne (by decide) gL650_2 rfl
      have gL651_3 : jGet L651 3 = some (.int (i32 (sy))) := eL651 ▸ jg_eq
      refine jx_ar (pc' := 21) (st' := [.int (i32 (0))]) rfl rfl rfl rfl ?_
      refine jx_ld (pc' := 23) (l' := jSto1 L651 4 (.int (i32 (0)))) (st' := []) rfl rfl ?_
      obtain ⟨L652, eL652⟩ : ∃ q, q = jSto1 L651 4 (.int (i32 (0))) := ⟨_, rfl⟩
      rw [← eL652]
      have gL652_0 : jGet L652 0 = some (.ref 66) := eL652 ▸ jg_ne (by decide) gL651_0 rfl
      have gL652_1 : jGet L652 1 = some (.int (i32 (lv))) := eL652 ▸ jg_ne (by decide) gL651_1 rfl
      have gL652_2 : jGet L652 2 = some (.int (i32 (vi))) := eL652 ▸ jg_ne (by decide) gL651_2 rfl
      have gL652_3 : jGet L652 3 = some (.int (i32 (sy))) := eL652 ▸ jg_ne (by decide) gL651_3 rfl
      have gL652_4 : jGet L652 4 = some (.int (i32 (0))) := eL652 ▸ jg_eq
      refine jx_ld (pc' := 24) (l' := L652) (st' := [.ref 66]) rfl (jl_aloadn gL652_0) ?_
      refine jx_vr (pc' := 27) (as := []) (st := []) rfl rfl rfl rfl ⟨rfl, rfl, Nat.le_of_ble_eq_true rfl⟩ rfl rfl (c_openLine (dd := d) (hd := by omega) (hW := hW632)  (ln := ln) (e_ln := show G628 9 = ln from ((hF633.1 9 rfl).trans (e_ln))) (le := A 4 (ln).toNat) (e_le := show A629 4 (ln).toNat = A 4 (ln).toNat from (congrFun (hF633.2 4 rfl) _)) (lf := lf) (e_lf := show A629 3 (ln).toNat = lf from (congrFun (hF633.2 3 rfl) _).trans (e_lf))    (p_0 := by omega)) (fun o V' hq => ?_)
      obtain ⟨G653, A654, at2_655, tk2_656, op2_657, rfl, rfl, hW658, hF659, e660, e661, e662, p663, p664, p665, p666, -⟩ := hq
      have hF668 := Fr_tr hF637 hF659 (Fr_sub (by decide)) (Fr_sub (by decide))
      have hP669 := Pf_f hP638 hF659 (by decide)
      have hS670 := Fx_f hS639 hF659 (by decide)
      have hV671 := Fx_f hV640 hF659 (by decide)
      have ec672 : ecn A654 (G653 31) = ec := (ecn_f (hF659.2 15 rfl) (hF659.1 31 rfl)).trans ec641
      have bat2_655 : (0 : Int) ≤ at2_655 ∧ at2_655 ≤ 3002 := e660 ▸ hW658.1 10
      have ztk2_656 := tz_b tk2_656
      have btk2_656 : (0 : Int) ≤ tk2_656 ∧ tk2_656 ≤ 5 := e661 ▸ hW658.1 11
      have bop2_657 : (-2147483648 : Int) ≤ op2_657 ∧ op2_657 ≤ 2147483647 := e662 ▸ hW658.1 15
      refine .inl ⟨rfl, ?_⟩
      have z673 := tz_f (tk2_656)
      exact c_readProcess_s_w_at_27 (X := X) (k := k) (hP := hP) (d := d) (Vs := Vs) (sb := sb) (pb := pb) (hvb := hvb) (c0 := c0) (c1 := c1) (G := G) (A := A) (T := T) (lv := lv) (at0 := at0) (ln := ln) (li := li) (fk := fk) (nd := nd) (sy := sy) (na := na) (vi := vi) (lf := lf) (ac := ac) (ec := ec) (hd := hd) (hW := hW) (e_ln := e_ln) (e_li := e_li) (e_fk := e_fk) (e_nd := e_nd) (e_sy := e_sy) (e_na := e_na) (e_vi := e_vi) (e_lf := e_lf) (e_ac := e_ac) (e_ec := e_ec) (i_LT := i_LT) (i_SV := i_SV) (i_PQ := i_PQ) (h_lv := h_lv) (p_0 := p_0) (p_1 := p_1) (p_2 := p_2) (p_3 := p_3) (p_4 := p_4) (p_5 := p_5) (p_6 := p_6) (p_7 := p_7) (p_8 := p_8) (p_9 := p_9) (p_10 := p_10) _ L652 G653 A654 (0) (ln) (at2_655) (tk2_656) (fk2_631) (op2_657) (sy) (na) (vi) (A 4 (ln).toNat) rfl gL652_0 gL652_1 gL652_2 gL652_3 gL652_4 hW658 hF668 hP669 hS670 hV671 (((hF659.1 9 rfl).trans ((hF633.1 9 rfl).trans (e_ln)))) ((e660)) ((e661)) (((hF659.1 16 rfl).trans (e635))) ((e662)) (((hF659.1 19 rfl).trans ((hF633.1 19 rfl).trans (e_sy)))) (((hF659.1 28 rfl).trans ((hF633.1 28 rfl).trans (e_na)))) (((hF659.1 29 rfl).trans ((hF633.1 29 rfl).trans (e_vi)))) ((congrFun ((hF659.2 4 rfl).trans (hF633.2 4 rfl)) _)) (((hF659.1 31 rfl).trans ((hF633.1 31 rfl).trans (e_nd)))) (ec672) (by omega) (by omega) (by omega) (by omega) (by omega) (by omega) (by omega) (by omega) (by omega) (by omega) (by omega) (by omega) (by omega) (wD_nil) (DS_nil)
    · have _q := h649
      exact absurd h649 (by omega)
  · have _q : True := trivial
    refine jx_if_ne (pc' := 8) (tg := 10) rfl rfl rfl (by decide) (by decide) (fun h674 => ?_) (fun h674 => ?_)
    · have _q := h674
      exact absurd h674 (by omega)
    · have _q := h674
      refine jx_ar (pc' := 9) (st' := [.int (i32 (0))]) rfl rfl rfl rfl ?_
      refine jx_rt (v := some (.int (i32 (0)))) rfl rfl rfl rfl rfl rfl ?_
      exact ⟨_, _, _, ln, ac, fk2_631, nd, sy, na, vi, lf, ec, rfl, rfl, hW632, hF637, hP638, hS639, hV640, by omega, ((hF633.1 9 rfl).trans (e_ln)), ((hF633.1 10 rfl).trans (e_ac)), (e635), ((hF633.1 31 rfl).trans (e_nd)), ((hF633.1 19 rfl).trans (e_sy)), ((hF633.1 28 rfl).trans (e_na)), ((hF633.1 29 rfl).trans (e_vi)), (congrFun (hF633.2 3 rfl) _).trans (e_lf), ec641, by omega, by omega, by omega, by omega, by omega, by omega, by omega, by omega, by omega, by first | exact Or.inl (⟨by omega, by omega⟩)⟩
set_option maxRecDepth 20000 in
set_option maxHeartbeats 4000000 in
theorem c_readProcess_0_w {X : jX} {dd : Nat} {Vs : Nat → Prop} {sb pb : Int} (hvb : VB Vs sb) {c0 c1 : jC} {G : Nat → Int} {A : Nat → Nat → Int} {T : jH} {lv : Int} {at0 : Int} {ln li fk nd sy na vi lf ac ec : Int} (hd : 8 * 0 + 80 ≤ dd) (hW : Wk G A) (e_ln : G 9 = ln) (e_li : G 3 = li) (e_fk : G 16 = fk) (e_nd : G 31 = nd) (e_sy : G 19 = sy) (e_na : G 28 = na) (e_vi : G 29 = vi) (e_lf : A 3 (ln).toNat = lf) (e_ac : G 10 = ac) (e_ec : ecn A (G 31) = ec) (i_LT : LT G A) (i_SV : SV Vs sb G A) (i_PQ : PQ Vs sb pb G A) (h_lv : (-2147483648 : Int) ≤ lv ∧ lv ≤ 2147483647) (p_0 : 0 ≤ lv ∧ lv ≤ 40) (p_1 : 18 - lv ≤ ((0 : Nat) : Int)) (p_2 : fk = 0) (p_3 : ln ≤ li) (p_4 : at0 < lf ∨ li ≤ ln) (p_5 : nd ≤ 2 * at0 + 32) (p_6 : sy ≤ na + 2) (p_7 : vi ≤ sy) (p_8 : at0 ≤ ac) (p_9 : -1 ≤ at0) (p_10 : sb ≤ sy) : wk X dd 292 [.ref 66, .int (i32 lv)] (rV c0 c1 G A T) (fun o V' => ∃ (G' : Nat → Int) (A' : Nat → Nat → Int) (r : Int) (ln2 : Int) (at2 : Int) (fk2 : Int) (nd2 : Int) (sy2 : Int) (na2 : Int) (vi2 : Int) (lf2 : Int) (ec2 : Int), V' = rV c0 c1 G' A' T ∧ o = .inl (some (.int (i32 r))) ∧ Wk G' A' ∧ Fr [9, 10, 11, 12, 13, 14, 15, 16, 17, 18, 19, 28, 29, 31] [6, 7, 8, 9, 10, 11, 12, 14, 15, 16, 17, 18, 19, 20, 21, 22, 23, 24, 28] G A G' A' ∧ Pf nd A A' ∧ Fx sr (sy) A A' ∧ Fx [14] (vi) A A' ∧ ((-2147483648 : Int) ≤ r ∧ r ≤ 2147483647) ∧ G' 9 = ln2 ∧ G' 10 = at2 ∧ G' 16 = fk2 ∧ G' 31 = nd2 ∧ G' 19 = sy2 ∧ G' 28 = na2 ∧ G' 29 = vi2 ∧ A' 3 (ln2).toNat = lf2 ∧ ecn A' (G' 31) = ec2 ∧ (at0 ≤ at2) ∧ (nd ≤ nd2) ∧ (sy ≤ sy2) ∧ (sy2 ≤ na2 + 2) ∧ (vi2 = vi) ∧ (0 ≤ r) ∧ (r ≤ 6999) ∧ (ln ≤ ln2) ∧ (ln2 ≤ li) ∧ (((1 ≤ fk2) ∧ (nd2 - nd ≤ 2 * at2 - 2 * at0 + 12)) ∨ ((fk2 = 0) ∧ (ln < ln2) ∧ (nd2 - nd ≤ 2 * at2 - 2 * at0) ∧ (at2 < lf2 ∨ li ≤ ln2) ∧ (nd ≤ r) ∧ (r < nd2) ∧ (wP A' (sy2) pb (0) (Vs) (r) (nd) (nd2) (sy) (sy2)) ∧ (NX A' (r)) ∧ (nd2 - nd + 5 * (ec2 - ec) ≤ 2 * at2 - 2 * at0) ∧ (nd + 5 * ec ≤ r)))) := by
  obtain ⟨d, rfl⟩ : ∃ d, dd = d + 1 := ⟨dd - 1, by omega⟩
  refine wk_of (e := jm292) rfl (Nat.le_of_ble_eq_true rfl) ?_
  show wj X d jm292 (0, [(0, .ref 66), (1, .int (i32 (lv)))], [], rV c0 c1 G A T) _
  have hF0 : Fr [9, 10, 11, 12, 13, 14, 15, 16, 17, 18, 19, 28, 29, 31] [6, 7, 8, 9, 10, 11, 12, 14, 15, 16, 17, 18, 19, 20, 21, 22, 23, 24, 28] G A G A := Fr_rf
  have hP0 : Pf nd A A := Pf_rf
  have hS0 : Fx sr (sy) A A := Fx_rf
  have hV0 : Fx [14] (vi) A A := Fx_rf
  have b_ln : (0 : Int) ≤ ln ∧ ln ≤ 3000 := e_ln ▸ hW.1 9
  have b_li : (0 : Int) ≤ li ∧ li ≤ 3000 := e_li ▸ hW.1 3
  have b_fk : (0 : Int) ≤ fk ∧ fk ≤ 6 := e_fk ▸ hW.1 16
  have b_nd : (0 : Int) ≤ nd ∧ nd ≤ 6999 := e_nd ▸ hW.1 31
  have b_sy : (0 : Int) ≤ sy ∧ sy ≤ 202 := e_sy ▸ hW.1 19
  have b_na : (0 : Int) ≤ na ∧ na ≤ 200 := e_na ▸ hW.1 28
  have b_vi : (0 : Int) ≤ vi ∧ vi ≤ 202 := e_vi ▸ hW.1 29
  have b_lf : (0 : Int) ≤ lf ∧ lf ≤ 3000 := e_lf ▸ hW.2 3 _
  have b_ac : (0 : Int) ≤ ac ∧ ac ≤ 3002 := e_ac ▸ hW.1 10
  refine jx_ld (pc' := 1) (l' := [(0, .ref 66), (1, .int (i32 (lv)))]) (st' := [.ref 66]) rfl (jl_aloadn rfl) ?_
  refine jx_ld (pc' := 2) (l' := [(0, .ref 66), (1, .int (i32 (lv)))]) (st' := [.int (i32 (lv)), .ref 66]) rfl (jl_iloadn rfl) ?_
  have b1 : (-1 : Int) ≤ A 5 (ln).toNat ∧ A 5 (ln).toNat ≤ 15 := hW.2 5 _
  refine jx_vr (pc' := 5) (as := [.int (i32 (lv))]) (st := []) rfl rfl rfl rfl ⟨rfl, rfl, Nat.le_of_ble_eq_true rfl⟩ rfl rfl (c_needLevel (dd := d) (hd := by omega) (hW := hW) (lv := lv) (ln := ln) (e_ln := show G 9 = ln from (e_ln)) (li := li) (e_li := show G 3 = li from (e_li)) (fk := fk) (e_fk := show G 16 = fk from (e_fk)) (ll := A 5 (ln).toNat) (e_ll := show A 5 (ln).toNat = A 5 (ln).toNat from rfl)  (h_lv := ⟨(Int.le_trans (by decide : (-2147483648 : Int) ≤ -2147483648) h_lv.1), (Int.le_trans h_lv.2 (by decide : (2147483647 : Int) ≤ 2147483647))⟩)  ) (fun o V' hq => ?_)
  obtain ⟨G2, A3, r4, fk2_5, rfl, rfl, hW6, hF7, b8, e9, q10⟩ := hq
  have hF11 := Fr_tr hF0 hF7 (Fr_sub (by decide)) (Fr_sub (by decide))
  have hP12 := Pf_f hP0 hF7 (by decide)
  have hS13 := Fx_f hS0 hF7 (by decide)
  have hV14 := Fx_f hV0 hF7 (by decide)
  have ec15 : ecn A3 (G2 31) = ec := (ecn_f (hF7.2 15 rfl) (hF7.1 31 rfl)).trans e_ec
  have bfk2_5 : (0 : Int) ≤ fk2_5 ∧ fk2_5 ≤ 6 := e9 ▸ hW6.1 16
  refine .inr ⟨_, rfl, ?_⟩
  rcases q10 with ⟨rfl, a16, a17, a18, a19⟩ | ⟨rfl, a20⟩
  · have _q : True := trivial
    have b21 : (0 : Int) ≤ A 4 (ln).toNat ∧ A 4 (ln).toNat ≤ 3000 := hW.2 4 _
    have lt22 : lf < A 4 (ln).toNat := LT_at (LT_ext ((hF7.1 3 rfl)) ((hF7.2 3 rfl)) ((hF7.2 4 rfl)) i_LT) (show G2 3 = li from ((hF7.1 3 rfl).trans (e_li))) (show A3 3 (ln).toNat = lf from (congrFun (hF7.2 3 rfl) _).trans (e_lf)) (show A3 4 (ln).toNat = A 4 (ln).toNat from (congrFun (hF7.2 4 rfl) _)) (by omega) (by omega)
    refine jx_if_ne (pc' := 8) (tg := 10) rfl rfl rfl (by decide) (by decide) (fun h23 => ?_) (fun h23 => ?_)
    · have _q := h23
      exfalso
      omega
    · have _q := h23
      exact absurd h23 (by omega)
  · have _q : True := trivial
    refine jx_if_ne (pc' := 8) (tg := 10) rfl rfl rfl (by decide) (by decide) (fun h24 => ?_) (fun h24 => ?_)
    · have _q := h24
      exact absurd h24 (by omega)
    · have _q := h24
      refine jx_ar (pc' := 9) (st' := [.int (i32 (0))]) rfl rfl rfl rfl ?_
      refine jx_rt (v := some (.int (i32 (0)))) rfl rfl rfl rfl rfl rfl ?_
      exact ⟨_, _, _, ln, ac, fk2_5, nd, sy, na, vi, lf, ec, rfl, rfl, hW6, hF11, hP12, hS13, hV14, by omega, ((hF7.1 9 rfl).trans (e_ln)), ((hF7.1 10 rfl).trans (e_ac)), (e9), ((hF7.1 31 rfl).trans (e_nd)), ((hF7.1 19 rfl).trans (e_sy)), ((hF7.1 28 rfl).trans (e_na)), ((hF7.1 29 rfl).trans (e_vi)), (congrFun (hF7.2 3 rfl) _).trans (e_lf), ec15, by omega, by omega, by omega, by omega, by omega, by omega, by omega, by omega, by omega, by first | exact Or.inl (⟨by omega, by omega⟩)⟩
theorem RPw_all (X : jX) : ∀ k, RPw X k
  | 0 => @c_readProcess_0_w X
  | k + 1 => @c_readProcess_s_w X k (RPw_all X k)

