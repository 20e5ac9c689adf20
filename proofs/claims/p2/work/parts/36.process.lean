set_option maxRecDepth 20000 in
set_option maxHeartbeats 4000000 in
theorem c_readProcess_s_at_27 {X : jX} {k : Nat} (hP : RP X k) {d : Nat} {Vs : Nat → Prop} {sb pb : Int} (hvb : VB Vs sb) {c0 c1 : jC} {G : Nat → Int} {A : Nat → Nat → Int} {T : jH} {lv : Int} {at0 : Int} {ln li fk nd sy na vi lf ac : Int} (hd : 8 * (k + 1) + 80 ≤ d + 1) (hW : Wk G A) (e_ln : G 9 = ln) (e_li : G 3 = li) (e_fk : G 16 = fk) (e_nd : G 31 = nd) (e_sy : G 19 = sy) (e_na : G 28 = na) (e_vi : G 29 = vi) (e_lf : A 3 (ln).toNat = lf) (e_ac : G 10 = ac) (i_LT : LT G A) (i_SV : SV Vs sb G A) (i_PQ : PQ Vs sb pb G A) (h_lv : (-2147483648 : Int) ≤ lv ∧ lv ≤ 2147483647) (p_0 : 0 ≤ lv ∧ lv ≤ 40) (p_1 : 18 - lv ≤ ((k + 1 : Nat) : Int)) (p_2 : fk = 0) (p_3 : ln ≤ li) (p_4 : at0 < lf ∨ li ≤ ln) (p_5 : nd ≤ 2 * at0 + 32) (p_6 : sy ≤ na + 2) (p_7 : vi ≤ sy) (p_8 : at0 ≤ ac) (p_9 : -1 ≤ at0) (p_10 : sb ≤ sy) : ∀ (m : Nat) (L : jL) (Gx : Nat → Int) (Ax : Nat → Nat → Int) (dc ln1 at1 tk1 fk1 op1 sy1 na1 vi1 le1 : Int), (li - ln1).toNat = m → jGet L 0 = some (.ref 66) → jGet L 1 = some (.int (i32 (lv))) → jGet L 2 = some (.int (i32 (vi))) → jGet L 3 = some (.int (i32 (sy))) → jGet L 4 = some (.int (i32 dc)) → Wk Gx Ax → Fr [9, 10, 11, 12, 13, 14, 15, 16, 17, 18, 19, 28, 29, 31] [6, 7, 8, 9, 10, 11, 12, 14, 15, 16, 17, 18, 19, 20, 21, 22, 23, 24, 28] G A Gx Ax → Pf nd A Ax → Fx sr (sy) A Ax → Fx [14] (vi) A Ax → Gx 9 = ln1 → Gx 10 = at1 → Gx 11 = tk1 → Gx 16 = fk1 → Gx 15 = op1 → Gx 19 = sy1 → Gx 28 = na1 → Gx 29 = vi1 → Ax 4 (ln1).toNat = le1 → Gx 31 = nd → ((-2147483648 : Int) ≤ dc ∧ dc ≤ 2147483647) → (fk1 = 0) → (lv ≤ 15) → (ln ≤ ln1) → (ln1 < li) → (at1 ≤ le1) → (2 * at0 + 2 ≤ 2 * at1 - tz tk1) → (op1 = 0) → (sy ≤ sy1) → (sy1 ≤ na1 + 2) → (vi ≤ vi1) → (vi1 ≤ sy1) → (dc = sy1 - sy) → (wD Ax (sy) (sy1)) → (DS Ax (vi) (vi1) (sy) (sy1)) → wj X d jm292 (27, L, [], rV c0 c1 Gx Ax T) (fun o V' => ∃ (G' : Nat → Int) (A' : Nat → Nat → Int) (r : Int) (ln2 : Int) (at2 : Int) (fk2 : Int) (nd2 : Int) (sy2 : Int) (na2 : Int) (vi2 : Int) (lf2 : Int), V' = rV c0 c1 G' A' T ∧ o = .inl (some (.int (i32 r))) ∧ Wk G' A' ∧ Fr [9, 10, 11, 12, 13, 14, 15, 16, 17, 18, 19, 28, 29, 31] [6, 7, 8, 9, 10, 11, 12, 14, 15, 16, 17, 18, 19, 20, 21, 22, 23, 24, 28] G A G' A' ∧ Pf nd A A' ∧ Fx sr (sy) A A' ∧ Fx [14] (vi) A A' ∧ ((-2147483648 : Int) ≤ r ∧ r ≤ 2147483647) ∧ G' 9 = ln2 ∧ G' 10 = at2 ∧ G' 16 = fk2 ∧ G' 31 = nd2 ∧ G' 19 = sy2 ∧ G' 28 = na2 ∧ G' 29 = vi2 ∧ A' 3 (ln2).toNat = lf2 ∧ (at0 ≤ at2) ∧ (nd ≤ nd2) ∧ (sy ≤ sy2) ∧ (sy2 ≤ na2 + 2) ∧ (vi2 = vi) ∧ (0 ≤ r) ∧ (r ≤ 6999) ∧ (ln ≤ ln2) ∧ (ln2 ≤ li) ∧ (((1 ≤ fk2) ∧ (nd2 - nd ≤ 2 * at2 - 2 * at0 + 12)) ∨ ((fk2 = 0) ∧ (ln < ln2) ∧ (nd2 - nd ≤ 2 * at2 - 2 * at0) ∧ (at2 < lf2 ∨ li ≤ ln2) ∧ (nd ≤ r) ∧ (r < nd2) ∧ (wP A' (sy2) pb (k + 1) (Vs) (r) (nd) (nd2) (sy) (sy2)) ∧ (NX A' (r))))) := by
  have hF0 : Fr [9, 10, 11, 12, 13, 14, 15, 16, 17, 18, 19, 28, 29, 31] [6, 7, 8, 9, 10, 11, 12, 14, 15, 16, 17, 18, 19, 20, 21, 22, 23, 24, 28] G A G A := Fr_rf
  have hP0 : Pf nd A A := Pf_rf
  have hS0 : Fx sr (sy) A A := Fx_rf
  have hV0 : Fx [14] (vi) A A := Fx_rf
  have b_ln : (0 : Int) ≤ ln ∧ ln ≤ 3000 := e_ln ▸ hW.1 9
  have b_li : (0 : Int) ≤ li ∧ li ≤ 3000 := e_li ▸ hW.1 3
  have b_fk : (0 : Int) ≤ fk ∧ fk ≤ 6 := e_fk ▸ hW.1 16
  have b_nd : (0 : Int) ≤ nd ∧ nd ≤ 6999 := e_nd ▸ hW.1 31
  have b_sy : (0 : Int) ≤ sy ∧ sy ≤ 202 := e_sy ▸ hW.1 19
  have b_na : (0 : Int) ≤ na ∧ na ≤ 200 := e_na ▸ hW.1 28
  have b_vi : (0 : Int) ≤ vi ∧ vi ≤ 202 := e_vi ▸ hW.1 29
  have b_lf : (0 : Int) ≤ lf ∧ lf ≤ 3000 := e_lf ▸ hW.2 3 _
  have b_ac : (0 : Int) ≤ ac ∧ ac ≤ 3002 := e_ac ▸ hW.1 10
  intro m
  induction m using Nat.strongRecOn with
  | ind m ih27 =>
    intro L Gx Ax dc ln1 at1 tk1 fk1 op1 sy1 na1 vi1 le1 hm gL_0 gL_1 gL_2 gL_3 gL_4 hWx hFx hPx hSx hVx ex_ln1 ex_at1 ex_tk1 ex_fk1 ex_op1 ex_sy1 ex_na1 ex_vi1 ex_le1 fx_31 rx_dc iv_0 iv_1 iv_2 iv_3 iv_4 iv_5 iv_6 iv_7 iv_8 iv_9 iv_10 iv_11 iv_12 iv_13
    have b_ln1 : (0 : Int) ≤ ln1 ∧ ln1 ≤ 3000 := ex_ln1 ▸ hWx.1 9
    have b_at1 : (0 : Int) ≤ at1 ∧ at1 ≤ 3002 := ex_at1 ▸ hWx.1 10
    have z_tk1 := tz_f tk1
    have b_tk1 : (0 : Int) ≤ tk1 ∧ tk1 ≤ 5 := ex_tk1 ▸ hWx.1 11
    have b_fk1 : (0 : Int) ≤ fk1 ∧ fk1 ≤ 6 := ex_fk1 ▸ hWx.1 16
    have b_op1 : (-2147483648 : Int) ≤ op1 ∧ op1 ≤ 2147483647 := ex_op1 ▸ hWx.1 15
    have b_sy1 : (0 : Int) ≤ sy1 ∧ sy1 ≤ 202 := ex_sy1 ▸ hWx.1 19
    have b_na1 : (0 : Int) ≤ na1 ∧ na1 ≤ 200 := ex_na1 ▸ hWx.1 28
    have b_vi1 : (0 : Int) ≤ vi1 ∧ vi1 ≤ 202 := ex_vi1 ▸ hWx.1 29
    refine jx_ld (pc' := 28) (l' := L) (st' := [.ref 66]) rfl (jl_aloadn gL_0) ?_
    refine jx_vr (pc' := 31) (as := []) (st := []) rfl rfl rfl rfl ⟨rfl, rfl, Nat.le_of_ble_eq_true rfl⟩ rfl rfl (c_bad (dd := d) (hd := by omega) (hW := hWx)  (fk := fk1) (e_fk := show Gx 16 = fk1 from (ex_fk1))    ) (fun o V' hq => ?_)
    obtain ⟨r1, rfl, rfl, b2, q3⟩ := hq
    refine .inr ⟨_, rfl, ?_⟩
    rcases q3 with ⟨rfl, a4⟩ | ⟨rfl, a5⟩
    · have _q : True := trivial
      exfalso
      omega
    · have _q : True := trivial
      refine jx_if_ne (pc' := 34) (tg := 98) rfl rfl rfl (by decide) (by decide) (fun h6 => ?_) (fun h6 => ?_)
      · have _q := h6
        exact absurd h6 (by omega)
      · have _q := h6
        refine jx_ld (pc' := 35) (l' := L) (st' := [.ref 66]) rfl (jl_aloadn gL_0) ?_
        refine jx_ar (pc' := 37) (st' := [.int (i32 (9)), .ref 66]) rfl rfl rfl rfl ?_
        have b7 : (-2147483648 : Int) ≤ Gx 13 ∧ Gx 13 ≤ 2147483647 := hWx.1 13
        refine jx_vr (pc' := 40) (as := [.int (i32 (9))]) (st := []) rfl rfl rfl rfl ⟨rfl, rfl, Nat.le_of_ble_eq_true rfl⟩ rfl rfl (c_isKey (dd := d) (hd := by omega) (hW := hWx) (k := 9) (tk := tk1) (e_tk := show Gx 11 = tk1 from (ex_tk1)) (tn := Gx 13) (e_tn := show Gx 13 = Gx 13 from rfl)  (h_k := ⟨(by decide), (by decide)⟩)  ) (fun o V' hq => ?_)
        obtain ⟨r8, rfl, rfl, b9, q10⟩ := hq
        refine .inr ⟨_, rfl, ?_⟩
        rcases q10 with ⟨rfl, a11, a12, a13⟩ | rfl
        · have _q : True := trivial
          refine jx_if_ne (pc' := 43) (tg := 61) rfl rfl rfl (by decide) (by decide) (fun h14 => ?_) (fun h14 => ?_)
          · have _q := h14
            refine jx_ld (pc' := 62) (l' := L) (st' := [.ref 66]) rfl (jl_aloadn gL_0) ?_
            refine jr_get (pc' := 65) (i := 19) (v := .int (i32 (sy1))) rfl rfl (by decide) (rFv_eq (by decide) (show Gx 19 = sy1 from (ex_sy1))) rfl ?_
            refine jx_ld (pc' := 67) (l' := jSto1 L 5 (.int (i32 (sy1)))) (st' := []) rfl rfl ?_
            obtain ⟨L15, eL15⟩ : ∃ q, q = jSto1 L 5 (.int (i32 (sy1))) := ⟨_, rfl⟩
            rw [← eL15]
            have gL15_0 : jGet L15 0 = some (.ref 66) := eL15 ▸ jg_ne (by decide) gL_0 rfl
            have gL15_1 : jGet L15 1 = some (.int (i32 (lv))) := eL15 ▸ jg_ne (by decide) gL_1 rfl
            have gL15_2 : jGet L15 2 = some (.int (i32 (vi))) := eL15 ▸ jg_ne (by decide) gL_2 rfl
            have gL15_3 : jGet L15 3 = some (.int (i32 (sy))) := eL15 ▸ jg_ne (by decide) gL_3 rfl
            have gL15_4 : jGet L15 4 = some (.int (i32 (dc))) := eL15 ▸ jg_ne (by decide) gL_4 rfl
            have gL15_5 : jGet L15 5 = some (.int (i32 (sy1))) := eL15 ▸ jg_eq
            refine jx_ld (pc' := 68) (l' := L15) (st' := [.ref 66]) rfl (jl_aloadn gL15_0) ?_
            refine jx_vr (pc' := 71) (as := []) (st := []) rfl rfl rfl rfl ⟨rfl, rfl, Nat.le_of_ble_eq_true rfl⟩ rfl rfl (c_readDeclaration (dd := d) (hd := by omega) (hW := hWx)  (ln := ln1) (e_ln := show Gx 9 = ln1 from (ex_ln1)) (le := le1) (e_le := show Ax 4 (ln1).toNat = le1 from (ex_le1)) (at0 := at1) (e_at0 := show Gx 10 = at1 from (ex_at1)) (fk := fk1) (e_fk := show Gx 16 = fk1 from (ex_fk1)) (tk0 := tk1) (e_tk0 := show Gx 11 = tk1 from (ex_tk1)) (li := li) (e_li := show Gx 3 = li from ((hFx.1 3 rfl).trans (e_li))) (sy := sy1) (e_sy := show Gx 19 = sy1 from (ex_sy1)) (na := na1) (e_na := show Gx 28 = na1 from (ex_na1)) (vi := vi1) (e_vi := show Gx 29 = vi1 from (ex_vi1))    (p_0 := by omega) (p_1 := by omega) (p_2 := by omega) (p_3 := by omega) (p_4 := by omega)) (fun o V' hq => ?_)
            obtain ⟨G16, A17, at2_18, fk2_19, ln2_20, sy2_21, na2_22, vi2_23, rfl, rfl, hW24, hF25, hQ26, hQ27, e28, e29, e30, e31, e32, e33, p34, p35, p36, p37, p38, p39, q40⟩ := hq
            have hF41 := Fr_tr hFx hF25 (Fr_sub (by decide)) (Fr_sub (by decide))
            have hP42 := Pf_f hPx hF25 (by decide)
            have hS43 := Fx_tr hSx hQ26 (by omega)
            have hV44 := Fx_tr hVx hQ27 (by omega)
            have sf45 : wD A17 (sy) (sy1) := wD_fx hQ26 (by omega) iv_12
            have sf46 : DS A17 (vi) (vi1) (sy) (sy1) := DS_fx hQ27 (by omega) iv_13
            have bat2_18 : (0 : Int) ≤ at2_18 ∧ at2_18 ≤ 3002 := e28 ▸ hW24.1 10
            have bfk2_19 : (0 : Int) ≤ fk2_19 ∧ fk2_19 ≤ 6 := e29 ▸ hW24.1 16
            have bln2_20 : (0 : Int) ≤ ln2_20 ∧ ln2_20 ≤ 3000 := e30 ▸ hW24.1 9
            have bsy2_21 : (0 : Int) ≤ sy2_21 ∧ sy2_21 ≤ 202 := e31 ▸ hW24.1 19
            have bna2_22 : (0 : Int) ≤ na2_22 ∧ na2_22 ≤ 200 := e32 ▸ hW24.1 28
            have bvi2_23 : (0 : Int) ≤ vi2_23 ∧ vi2_23 ≤ 202 := e33 ▸ hW24.1 29
            refine .inl ⟨rfl, ?_⟩
            rcases q40 with ⟨a47, a48⟩ | ⟨a49, a50, a51, a52⟩
            · have _q : True := trivial
              refine jx_ld (pc' := 73) (l' := L15) (st' := [.int (i32 (dc))]) rfl (jl_iload gL15_4) ?_
              refine jx_ld (pc' := 74) (l' := L15) (st' := [.ref 66, .int (i32 (dc))]) rfl (jl_aloadn gL15_0) ?_
              refine jr_get (pc' := 77) (i := 19) (v := .int (i32 (sy2_21))) rfl rfl (by decide) (rFv_eq (by decide) (show G16 19 = sy2_21 from (e31))) rfl ?_
              refine jx_add (pc' := 78) rfl rfl ?_
              refine jx_ld (pc' := 80) (l' := L15) (st' := [.int (i32 (sy1)), .int (i32 ((dc + sy2_21)))]) rfl (jl_iload gL15_5) ?_
              refine jx_sub (pc' := 81) rfl rfl ?_
              refine jx_ld (pc' := 83) (l' := jSto1 L15 4 (.int (i32 (((dc + sy2_21) - sy1))))) (st' := []) rfl rfl ?_
              obtain ⟨L53, eL53⟩ : ∃ q, q = jSto1 L15 4 (.int (i32 (((dc + sy2_21) - sy1)))) := ⟨_, rfl⟩
              rw [← eL53]
              have gL53_0 : jGet L53 0 = some (.ref 66) := eL53 ▸ jg_ne (by decide) gL15_0 rfl
              have gL53_1 : jGet L53 1 = some (.int (i32 (lv))) := eL53 ▸ jg_ne (by decide) gL15_1 rfl
              have gL53_2 : jGet L53 2 = some (.int (i32 (vi))) := eL53 ▸ jg_ne (by decide) gL15_2 rfl
              have gL53_3 : jGet L53 3 = some (.int (i32 (sy))) := eL53 ▸ jg_ne (by decide) gL15_3 rfl
              have gL53_5 : jGet L53 5 = some (.int (i32 (sy1))) := eL53 ▸ jg_ne (by decide) gL15_5 rfl
              have gL53_4 : jGet L53 4 = some (.int (i32 (((dc + sy2_21) - sy1)))) := eL53 ▸ jg_eq
              refine jx_ld (pc' := 84) (l' := L53) (st' := [.ref 66]) rfl (jl_aloadn gL53_0) ?_
              refine jx_ld (pc' := 85) (l' := L53) (st' := [.int (i32 (lv)), .ref 66]) rfl (jl_iloadn gL53_1) ?_
              have b54 : (-1 : Int) ≤ A 5 (ln2_20).toNat ∧ A 5 (ln2_20).toNat ≤ 15 := hW.2 5 _
              refine jx_vr (pc' := 88) (as := [.int (i32 (lv))]) (st := []) rfl rfl rfl rfl ⟨rfl, rfl, Nat.le_of_ble_eq_true rfl⟩ rfl rfl (c_needLevel (dd := d) (hd := by omega) (hW := hW24) (lv := lv) (ln := ln2_20) (e_ln := show G16 9 = ln2_20 from (e30)) (li := li) (e_li := show G16 3 = li from ((hF25.1 3 rfl).trans ((hFx.1 3 rfl).trans (e_li)))) (fk := fk2_19) (e_fk := show G16 16 = fk2_19 from (e29)) (ll := A 5 (ln2_20).toNat) (e_ll := show A17 5 (ln2_20).toNat = A 5 (ln2_20).toNat from (congrFun ((hF25.2 5 rfl).trans (hFx.2 5 rfl)) _))  (h_lv := ⟨(Int.le_trans (by decide : (-2147483648 : Int) ≤ -2147483648) h_lv.1), (Int.le_trans h_lv.2 (by decide : (2147483647 : Int) ≤ 2147483647))⟩)  ) (fun o V' hq => ?_)
              obtain ⟨G55, A56, r57, fk2_58, rfl, rfl, hW59, hF60, b61, e62, q63⟩ := hq
              have hF64 := Fr_tr hF41 hF60 (Fr_sub (by decide)) (Fr_sub (by decide))
              have hP65 := Pf_f hP42 hF60 (by decide)
              have hS66 := Fx_f hS43 hF60 (by decide)
              have hV67 := Fx_f hV44 hF60 (by decide)
              have sf68 : wD A56 (sy) (sy1) := wD_fx (Sg_fr (sb := sy1) hF60 (by decide)) (by omega) sf45
              have sf69 : DS A56 (vi) (vi1) (sy) (sy1) := DS_ext (hF60.2 14 rfl) sf46
              have bfk2_58 : (0 : Int) ≤ fk2_58 ∧ fk2_58 ≤ 6 := e62 ▸ hW59.1 16
              refine .inr ⟨_, rfl, ?_⟩
              rcases q63 with ⟨rfl, a70, a71, a72, a73⟩ | ⟨rfl, a74⟩
              · have _q : True := trivial
                exfalso
                omega
              · have _q : True := trivial
                refine jx_if_eq (pc' := 91) (tg := 95) rfl rfl rfl (by decide) (by decide) (fun h75 => ?_) (fun h75 => ?_)
                · have _q := h75
                  refine jx_go (tg := 27) rfl rfl ?_
                  refine jx_ld (pc' := 28) (l' := L53) (st' := [.ref 66]) rfl (jl_aloadn gL53_0) ?_
                  refine jx_vr (pc' := 31) (as := []) (st := []) rfl rfl rfl rfl ⟨rfl, rfl, Nat.le_of_ble_eq_true rfl⟩ rfl rfl (c_bad (dd := d) (hd := by omega) (hW := hW59)  (fk := fk2_58) (e_fk := show G55 16 = fk2_58 from (e62))    ) (fun o V' hq => ?_)
                  obtain ⟨r76, rfl, rfl, b77, q78⟩ := hq
                  refine .inr ⟨_, rfl, ?_⟩
                  rcases q78 with ⟨rfl, a79⟩ | ⟨rfl, a80⟩
                  · have _q : True := trivial
                    refine jx_if_ne (pc' := 34) (tg := 98) rfl rfl rfl (by decide) (by decide) (fun h81 => ?_) (fun h81 => ?_)
                    · have _q := h81
                      refine jx_ld (pc' := 99) (l' := L53) (st' := [.ref 66]) rfl (jl_aloadn gL53_0) ?_
                      refine jx_vr (pc' := 102) (as := []) (st := []) rfl rfl rfl rfl ⟨rfl, rfl, Nat.le_of_ble_eq_true rfl⟩ rfl rfl (c_bad (dd := d) (hd := by omega) (hW := hW59)  (fk := fk2_58) (e_fk := show G55 16 = fk2_58 from (e62))    ) (fun o V' hq => ?_)
                      obtain ⟨r82, rfl, rfl, b83, q84⟩ := hq
                      refine .inr ⟨_, rfl, ?_⟩
                      rcases q84 with ⟨rfl, a85⟩ | ⟨rfl, a86⟩
                      · have _q : True := trivial
                        refine jx_if_eq (pc' := 105) (tg := 109) rfl rfl rfl (by decide) (by decide) (fun h87 => ?_) (fun h87 => ?_)
                        · have _q := h87
                          exact absurd h87 (by omega)
                        · have _q := h87
                          refine jx_ar (pc' := 106) (st' := [.int (i32 (0))]) rfl rfl rfl rfl ?_
                          refine jx_go (tg := 114) rfl rfl ?_
                          refine jx_ld (pc' := 116) (l' := jSto1 L53 5 (.int (i32 (0)))) (st' := []) rfl rfl ?_
                          obtain ⟨L88, eL88⟩ : ∃ q, q = jSto1 L53 5 (.int (i32 (0))) := ⟨_, rfl⟩
                          rw [← eL88]
                          have gL88_0 : jGet L88 0 = some (.ref 66) := eL88 ▸ jg_ne (by decide) gL53_0 rfl
                          have gL88_1 : jGet L88 1 = some (.int (i32 (lv))) := eL88 ▸ jg_ne (by decide) gL53_1 rfl
                          have gL88_2 : jGet L88 2 = some (.int (i32 (vi))) := eL88 ▸ jg_ne (by decide) gL53_2 rfl
                          have gL88_3 : jGet L88 3 = some (.int (i32 (sy))) := eL88 ▸ jg_ne (by decide) gL53_3 rfl
                          have gL88_4 : jGet L88 4 = some (.int (i32 (((dc + sy2_21) - sy1)))) := eL88 ▸ jg_ne (by decide) gL53_4 rfl
                          have gL88_5 : jGet L88 5 = some (.int (i32 (0))) := eL88 ▸ jg_eq
                          refine jx_ld (pc' := 117) (l' := L88) (st' := [.ref 66]) rfl (jl_aloadn gL88_0) ?_
                          refine jx_vr (pc' := 120) (as := []) (st := []) rfl rfl rfl rfl ⟨rfl, rfl, Nat.le_of_ble_eq_true rfl⟩ rfl rfl (c_bad (dd := d) (hd := by omega) (hW := hW59)  (fk := fk2_58) (e_fk := show G55 16 = fk2_58 from (e62))    ) (fun o V' hq => ?_)
                          obtain ⟨r89, rfl, rfl, b90, q91⟩ := hq
                          refine .inr ⟨_, rfl, ?_⟩
                          rcases q91 with ⟨rfl, a92⟩ | ⟨rfl, a93⟩
                          · have _q : True := trivial
                            refine jx_if_ne (pc' := 123) (tg := 140) rfl rfl rfl (by decide) (by decide) (fun h94 => ?_) (fun h94 => ?_)
                            · have _q := h94
                              refine jx_ld (pc' := 141) (l' := L88) (st' := [.ref 66]) rfl (jl_aloadn gL88_0) ?_
                              refine jx_ld (pc' := 142) (l' := L88) (st' := [.int (i32 (vi)), .ref 66]) rfl (jl_iloadn gL88_2) ?_
                              refine jr_put (pc' := 145) (i := 29) (z := vi) rfl rfl (by decide) rfl rfl rfl rfl rfl rfl ?_
                              have hW95 : Wk (uG G55 29 (vi)) A56 := Wk_g hW59 (show (0 : Int) ≤ vi by omega) (show vi ≤ (202 : Int) by omega)
                              have hF96 := Fr_g (z := vi) (i := 29) hF64 (by decide)
                              refine jx_ld (pc' := 147) (l' := L88) (st' := [.int (i32 (0))]) rfl (jl_iload gL88_5) ?_
                              refine jx_rt (v := some (.int (i32 (0)))) rfl rfl rfl rfl rfl rfl ?_
                              exact ⟨_, _, _, ln2_20, at2_18, fk2_58, nd, sy2_21, na2_22, vi, A 3 (ln2_20).toNat, rfl, rfl, hW95, hF96, hP65, hS66, hV67, by omega, ((hF60.1 9 rfl).trans (e30)), ((hF60.1 10 rfl).trans (e28)), (e62), ((hF60.1 31 rfl).trans ((hF25.1 31 rfl).trans (fx_31))), ((hF60.1 19 rfl).trans (e31)), ((hF60.1 28 rfl).trans (e32)), rfl, (congrFun ((hF60.2 3 rfl).trans ((hF25.2 3 rfl).trans (hFx.2 3 rfl))) _), by omega, by omega, by omega, by omega, by omega, by omega, by omega, by omega, by omega, by first | exact Or.inl (⟨by omega, by omega⟩)⟩
                            · have _q := h94
                              exact absurd h94 (by omega)
                          · have _q : True := trivial
                            exfalso
                            omega
                      · have _q : True := trivial
                        exfalso
                        omega
                    · have _q := h81
                      exact absurd h81 (by omega)
                  · have _q : True := trivial
                    exfalso
                    omega
                · have _q := h75
                  exact absurd h75 (by omega)
            · have _q : True := trivial
              have b97 : (0 : Int) ≤ A 3 (ln2_20).toNat ∧ A 3 (ln2_20).toNat ≤ 3000 := hW.2 3 _
              have lt98 : ln2_20 < li → le1 < A 3 (ln2_20).toNat := fun hh => LT_nx (LT_ext (((hF25.1 3 rfl).trans (hFx.1 3 rfl))) (((hF25.2 3 rfl).trans (hFx.2 3 rfl))) (((hF25.2 4 rfl).trans (hFx.2 4 rfl))) i_LT) (show G16 3 = li from ((hF25.1 3 rfl).trans ((hFx.1 3 rfl).trans (e_li)))) (show A17 4 (ln1).toNat = le1 from (congrFun (hF25.2 4 rfl) _).trans (ex_le1)) (show A17 3 (ln2_20).toNat = A 3 (ln2_20).toNat from (congrFun ((hF25.2 3 rfl).trans (hFx.2 3 rfl)) _)) (show ln2_20 = ln1 + 1 by omega) (by omega) hh
              refine jx_ld (pc' := 73) (l' := L15) (st' := [.int (i32 (dc))]) rfl (jl_iload gL15_4) ?_
              refine jx_ld (pc' := 74) (l' := L15) (st' := [.ref 66, .int (i32 (dc))]) rfl (jl_aloadn gL15_0) ?_
              refine jr_get (pc' := 77) (i := 19) (v := .int (i32 (sy2_21))) rfl rfl (by decide) (rFv_eq (by decide) (show G16 19 = sy2_21 from (e31))) rfl ?_
              refine jx_add (pc' := 78) rfl rfl ?_
              refine jx_ld (pc' := 80) (l' := L15) (st' := [.int (i32 (sy1)), .int (i32 ((dc + sy2_21)))]) rfl (jl_iload gL15_5) ?_
              refine jx_sub (pc' := 81) rfl rfl ?_
              refine jx_ld (pc' := 83) (l' := jSto1 L15 4 (.int (i32 (((dc + sy2_21) - sy1))))) (st' := []) rfl rfl ?_
              obtain ⟨L99, eL99⟩ : ∃ q, q = jSto1 L15 4 (.int (i32 (((dc + sy2_21) - sy1)))) := ⟨_, rfl⟩
              rw [← eL99]
              have gL99_0 : jGet L99 0 = some (.ref 66) := eL99 ▸ jg_ne (by decide) gL15_0 rfl
              have gL99_1 : jGet L99 1 = some (.int (i32 (lv))) := eL99 ▸ jg_ne (by decide) gL15_1 rfl
              have gL99_2 : jGet L99 2 = some (.int (i32 (vi))) := eL99 ▸ jg_ne (by decide) gL15_2 rfl
              have gL99_3 : jGet L99 3 = some (.int (i32 (sy))) := eL99 ▸ jg_ne (by decide) gL15_3 rfl
              have gL99_5 : jGet L99 5 = some (.int (i32 (sy1))) := eL99 ▸ jg_ne (by decide) gL15_5 rfl
              have gL99_4 : jGet L99 4 = some (.int (i32 (((dc + sy2_21) - sy1)))) := eL99 ▸ jg_eq
              refine jx_ld (pc' := 84) (l' := L99) (st' := [.ref 66]) rfl (jl_aloadn gL99_0) ?_
              refine jx_ld (pc' := 85) (l' := L99) (st' := [.int (i32 (lv)), .ref 66]) rfl (jl_iloadn gL99_1) ?_
              have b100 : (-1 : Int) ≤ A 5 (ln2_20).toNat ∧ A 5 (ln2_20).toNat ≤ 15 := hW.2 5 _
              refine jx_vr (pc' := 88) (as := [.int (i32 (lv))]) (st := []) rfl rfl rfl rfl ⟨rfl, rfl, Nat.le_of_ble_eq_true rfl⟩ rfl rfl (c_needLevel (dd := d) (hd := by omega) (hW := hW24) (lv := lv) (ln := ln2_20) (e_ln := show G16 9 = ln2_20 from (e30)) (li := li) (e_li := show G16 3 = li from ((hF25.1 3 rfl).trans ((hFx.1 3 rfl).trans (e_li)))) (fk := fk2_19) (e_fk := show G16 16 = fk2_19 from (e29)) (ll := A 5 (ln2_20).toNat) (e_ll := show A17 5 (ln2_20).toNat = A 5 (ln2_20).toNat from (congrFun ((hF25.2 5 rfl).trans (hFx.2 5 rfl)) _))  (h_lv := ⟨(Int.le_trans (by decide : (-2147483648 : Int) ≤ -2147483648) h_lv.1), (Int.le_trans h_lv.2 (by decide : (2147483647 : Int) ≤ 2147483647))⟩)  ) (fun o V' hq => ?_)
              obtain ⟨G101, A102, r103, fk2_104, rfl, rfl, hW105, hF106, b107, e108, q109⟩ := hq
              have hF110 := Fr_tr hF41 hF106 (Fr_sub (by decide)) (Fr_sub (by decide))
              have hP111 := Pf_f hP42 hF106 (by decide)
              have hS112 := Fx_f hS43 hF106 (by decide)
              have hV113 := Fx_f hV44 hF106 (by decide)
              have sf114 : wD A102 (sy) (sy1) := wD_fx (Sg_fr (sb := sy1) hF106 (by decide)) (by omega) sf45
              have sf115 : DS A102 (vi) (vi1) (sy) (sy1) := DS_ext (hF106.2 14 rfl) sf46
              have sf116 : wD A102 (sy1) (sy2_21) := wD_fx (Sg_fr (sb := sy2_21) hF106 (by decide)) (by omega) a51
              have sf117 : DS A102 (vi1) (vi2_23) (sy1) (sy2_21) := DS_ext (hF106.2 14 rfl) a52
              have bfk2_104 : (0 : Int) ≤ fk2_104 ∧ fk2_104 ≤ 6 := e108 ▸ hW105.1 16
              refine .inr ⟨_, rfl, ?_⟩
              rcases q109 with ⟨rfl, a118, a119, a120, a121⟩ | ⟨rfl, a122⟩
              · have _q : True := trivial
                have b123 : (0 : Int) ≤ A 4 (ln2_20).toNat ∧ A 4 (ln2_20).toNat ≤ 3000 := hW.2 4 _
                have lt124 : A 3 (ln2_20).toNat < A 4 (ln2_20).toNat := LT_at (LT_ext (((hF106.1 3 rfl).trans ((hF25.1 3 rfl).trans (hFx.1 3 rfl)))) (((hF106.2 3 rfl).trans ((hF25.2 3 rfl).trans (hFx.2 3 rfl)))) (((hF106.2 4 rfl).trans ((hF25.2 4 rfl).trans (hFx.2 4 rfl)))) i_LT) (show G101 3 = li from ((hF106.1 3 rfl).trans ((hF25.1 3 rfl).trans ((hFx.1 3 rfl).trans (e_li))))) (show A102 3 (ln2_20).toNat = A 3 (ln2_20).toNat from (congrFun ((hF106.2 3 rfl).trans ((hF25.2 3 rfl).trans (hFx.2 3 rfl))) _)) (show A102 4 (ln2_20).toNat = A 4 (ln2_20).toNat from (congrFun ((hF106.2 4 rfl).trans ((hF25.2 4 rfl).trans (hFx.2 4 rfl))) _)) (by omega) (by omega)
                refine jx_if_eq (pc' := 91) (tg := 95) rfl rfl rfl (by decide) (by decide) (fun h125 => ?_) (fun h125 => ?_)
                · have _q := h125
                  exact absurd h125 (by omega)
                · have _q := h125
                  refine jx_ld (pc' := 92) (l' := L99) (st' := [.ref 66]) rfl (jl_aloadn gL99_0) ?_
                  refine jx_vr (pc' := 95) (as := []) (st := []) rfl rfl rfl rfl ⟨rfl, rfl, Nat.le_of_ble_eq_true rfl⟩ rfl rfl (c_openLine (dd := d) (hd := by omega) (hW := hW105)  (ln := ln2_20) (e_ln := show G101 9 = ln2_20 from ((hF106.1 9 rfl).trans (e30))) (le := A 4 (ln2_20).toNat) (e_le := show A102 4 (ln2_20).toNat = A 4 (ln2_20).toNat from (congrFun ((hF106.2 4 rfl).trans ((hF25.2 4 rfl).trans (hFx.2 4 rfl))) _)) (lf := A 3 (ln2_20).toNat) (e_lf := show A102 3 (ln2_20).toNat = A 3 (ln2_20).toNat from (congrFun ((hF106.2 3 rfl).trans ((hF25.2 3 rfl).trans (hFx.2 3 rfl))) _))    (p_0 := by omega)) (fun o V' hq => ?_)
                  obtain ⟨G126, A127, at2_128, tk2_129, op2_130, rfl, rfl, hW131, hF132, e133, e134, e135, p136, p137, p138, p139, -⟩ := hq
                  have hF141 := Fr_tr hF110 hF132 (Fr_sub (by decide)) (Fr_sub (by decide))
                  have hP142 := Pf_f hP111 hF132 (by decide)
                  have hS143 := Fx_f hS112 hF132 (by decide)
                  have hV144 := Fx_f hV113 hF132 (by decide)
                  have sf145 : wD A127 (sy) (sy1) := wD_fx (Sg_fr (sb := sy1) hF132 (by decide)) (by omega) sf114
                  have sf146 : DS A127 (vi) (vi1) (sy) (sy1) := DS_ext (hF132.2 14 rfl) sf115
                  have sf147 : wD A127 (sy1) (sy2_21) := wD_fx (Sg_fr (sb := sy2_21) hF132 (by decide)) (by omega) sf116
                  have sf148 : DS A127 (vi1) (vi2_23) (sy1) (sy2_21) := DS_ext (hF132.2 14 rfl) sf117
                  have bat2_128 : (0 : Int) ≤ at2_128 ∧ at2_128 ≤ 3002 := e133 ▸ hW131.1 10
                  have ztk2_129 := tz_b tk2_129
                  have btk2_129 : (0 : Int) ≤ tk2_129 ∧ tk2_129 ≤ 5 := e134 ▸ hW131.1 11
                  have bop2_130 : (-2147483648 : Int) ≤ op2_130 ∧ op2_130 ≤ 2147483647 := e135 ▸ hW131.1 15
                  refine .inl ⟨rfl, ?_⟩
                  refine jx_go (tg := 27) rfl rfl ?_
                  have z149 := tz_f (tk2_129)
                  exact ih27 _ (by omega) L99 G126 A127 (((dc + sy2_21) - sy1)) (ln2_20) (at2_128) (tk2_129) (fk2_104) (op2_130) (sy2_21) (na2_22) (vi2_23) (A 4 (ln2_20).toNat) rfl gL99_0 gL99_1 gL99_2 gL99_3 gL99_4 hW131 hF141 hP142 hS143 hV144 (((hF132.1 9 rfl).trans ((hF106.1 9 rfl).trans (e30)))) ((e133)) ((e134)) (((hF132.1 16 rfl).trans (e108))) ((e135)) (((hF132.1 19 rfl).trans ((hF106.1 19 rfl).trans (e31)))) (((hF132.1 28 rfl).trans ((hF106.1 28 rfl).trans (e32)))) (((hF132.1 29 rfl).trans ((hF106.1 29 rfl).trans (e33)))) ((congrFun ((hF132.2 4 rfl).trans ((hF106.2 4 rfl).trans ((hF25.2 4 rfl).trans (hFx.2 4 rfl)))) _)) (((hF132.1 31 rfl).trans ((hF106.1 31 rfl).trans ((hF25.1 31 rfl).trans (fx_31))))) (by omega) (by omega) (by omega) (by omega) (by omega) (by omega) (by omega) (by omega) (by omega) (by omega) (by omega) (by omega) (by omega) ((wD_tr sf145 sf147)) ((DS_app sf146 sf148 (by omega) (by omega)))
              · have _q : True := trivial
                refine jx_if_eq (pc' := 91) (tg := 95) rfl rfl rfl (by decide) (by decide) (fun h150 => ?_) (fun h150 => ?_)
                · have _q := h150
                  refine jx_go (tg := 27) rfl rfl ?_
                  refine jx_ld (pc' := 28) (l' := L99) (st' := [.ref 66]) rfl (jl_aloadn gL99_0) ?_
                  refine jx_vr (pc' := 31) (as := []) (st := []) rfl rfl rfl rfl ⟨rfl, rfl, Nat.le_of_ble_eq_true rfl⟩ rfl rfl (c_bad (dd := d) (hd := by omega) (hW := hW105)  (fk := fk2_104) (e_fk := show G101 16 = fk2_104 from (e108))    ) (fun o V' hq => ?_)
                  obtain ⟨r151, rfl, rfl, b152, q153⟩ := hq
                  refine .inr ⟨_, rfl, ?_⟩
                  rcases q153 with ⟨rfl, a154⟩ | ⟨rfl, a155⟩
                  · have _q : True := trivial
                    refine jx_if_ne (pc' := 34) (tg := 98) rfl rfl rfl (by decide) (by decide) (fun h156 => ?_) (fun h156 => ?_)
                    · have _q := h156
                      refine jx_ld (pc' := 99) (l' := L99) (st' := [.ref 66]) rfl (jl_aloadn gL99_0) ?_
                      refine jx_vr (pc' := 102) (as := []) (st := []) rfl rfl rfl rfl ⟨rfl, rfl, Nat.le_of_ble_eq_true rfl⟩ rfl rfl (c_bad (dd := d) (hd := by omega) (hW := hW105)  (fk := fk2_104) (e_fk := show G101 16 = fk2_104 from (e108))    ) (fun o V' hq => ?_)
                      obtain ⟨r157, rfl, rfl, b158, q159⟩ := hq
                      refine .inr ⟨_, rfl, ?_⟩
                      rcases q159 with ⟨rfl, a160⟩ | ⟨rfl, a161⟩
                      · have _q : True := trivial
                        refine jx_if_eq (pc' := 105) (tg := 109) rfl rfl rfl (by decide) (by decide) (fun h162 => ?_) (fun h162 => ?_)
                        · have _q := h162
                          exact absurd h162 (by omega)
                        · have _q := h162
                          refine jx_ar (pc' := 106) (st' := [.int (i32 (0))]) rfl rfl rfl rfl ?_
                          refine jx_go (tg := 114) rfl rfl ?_
                          refine jx_ld (pc' := 116) (l' := jSto1 L99 5 (.int (i32 (0)))) (st' := []) rfl rfl ?_
                          obtain ⟨L163, eL163⟩ : ∃ q, q = jSto1 L99 5 (.int (i32 (0))) := ⟨_, rfl⟩
                          rw [← eL163]
                          have gL163_0 : jGet L163 0 = some (.ref 66) := eL163 ▸ jg_ne (by decide) gL99_0 rfl
                          have gL163_1 : jGet L163 1 = some (.int (i32 (lv))) := eL163 ▸ jg_ne (by decide) gL99_1 rfl
                          have gL163_2 : jGet L163 2 = some (.int (i32 (vi))) := eL163 ▸ jg_ne (by decide) gL99_2 rfl
                          have gL163_3 : jGet L163 3 = some (.int (i32 (sy))) := eL163 ▸ jg_ne (by decide) gL99_3 rfl
                          have gL163_4 : jGet L163 4 = some (.int (i32 (((dc + sy2_21) - sy1)))) := eL163 ▸ jg_ne (by decide) gL99_4 rfl
                          have gL163_5 : jGet L163 5 = some (.int (i32 (0))) := eL163 ▸ jg_eq
                          refine jx_ld (pc' := 117) (l' := L163) (st' := [.ref 66]) rfl (jl_aloadn gL163_0) ?_
                          refine jx_vr (pc' := 120) (as := []) (st := []) rfl rfl rfl rfl ⟨rfl, rfl, Nat.le_of_ble_eq_true rfl⟩ rfl rfl (c_bad (dd := d) (hd := by omega) (hW := hW105)  (fk := fk2_104) (e_fk := show G101 16 = fk2_104 from (e108))    ) (fun o V' hq => ?_)
                          obtain ⟨r164, rfl, rfl, b165, q166⟩ := hq
                          refine .inr ⟨_, rfl, ?_⟩
                          rcases q166 with ⟨rfl, a167⟩ | ⟨rfl, a168⟩
                          · have _q : True := trivial
                            refine jx_if_ne (pc' := 123) (tg := 140) rfl rfl rfl (by decide) (by decide) (fun h169 => ?_) (fun h169 => ?_)
                            · have _q := h169
                              refine jx_ld (pc' := 141) (l' := L163) (st' := [.ref 66]) rfl (jl_aloadn gL163_0) ?_
                              refine jx_ld (pc' := 142) (l' := L163) (st' := [.int (i32 (vi)), .ref 66]) rfl (jl_iloadn gL163_2) ?_
                              refine jr_put (pc' := 145) (i := 29) (z := vi) rfl rfl (by decide) rfl rfl rfl rfl rfl rfl ?_
                              have hW170 : Wk (uG G101 29 (vi)) A102 := Wk_g hW105 (show (0 : Int) ≤ vi by omega) (show vi ≤ (202 : Int) by omega)
                              have hF171 := Fr_g (z := vi) (i := 29) hF110 (by decide)
                              refine jx_ld (pc' := 147) (l' := L163) (st' := [.int (i32 (0))]) rfl (jl_iload gL163_5) ?_
                              refine jx_rt (v := some (.int (i32 (0)))) rfl rfl rfl rfl rfl rfl ?_
                              exact ⟨_, _, _, ln2_20, at2_18, fk2_104, nd, sy2_21, na2_22, vi, A 3 (ln2_20).toNat, rfl, rfl, hW170, hF171, hP111, hS112, hV113, by omega, ((hF106.1 9 rfl).trans (e30)), ((hF106.1 10 rfl).trans (e28)), (e108), ((hF106.1 31 rfl).trans ((hF25.1 31 rfl).trans (fx_31))), ((hF106.1 19 rfl).trans (e31)), ((hF106.1 28 rfl).trans (e32)), rfl, (congrFun ((hF106.2 3 rfl).trans ((hF25.2 3 rfl).trans (hFx.2 3 rfl))) _), by omega, by omega, by omega, by omega, by omega, by omega, by omega, by omega, by omega, by first | exact Or.inl (⟨by omega, by omega⟩)⟩
                            · have _q := h169
                              exact absurd h169 (by omega)
                          · have _q : True := trivial
                            exfalso
                            omega
                      · have _q : True := trivial
                        exfalso
                        omega
                    · have _q := h156
                      exact absurd h156 (by omega)
                  · have _q : True := trivial
                    exfalso
                    omega
                · have _q := h150
                  exact absurd h150 (by omega)
          · have _q := h14
            exact absurd h14 (by omega)
        · have _q : True := trivial
          refine jx_if_ne (pc' := 43) (tg := 61) rfl rfl rfl (by decide) (by decide) (fun h172 => ?_) (fun h172 => ?_)
          · have _q := h172
            exact absurd h172 (by omega)
          · have _q := h172
            refine jx_ld (pc' := 44) (l' := L) (st' := [.ref 66]) rfl (jl_aloadn gL_0) ?_
            refine jx_ar (pc' := 46) (st' := [.int (i32 (10)), .ref 66]) rfl rfl rfl rfl ?_
            refine jx_vr (pc' := 49) (as := [.int (i32 (10))]) (st := []) rfl rfl rfl rfl ⟨rfl, rfl, Nat.le_of_ble_eq_true rfl⟩ rfl rfl (c_isKey (dd := d) (hd := by omega) (hW := hWx) (k := 10) (tk := tk1) (e_tk := show Gx 11 = tk1 from (ex_tk1)) (tn := Gx 13) (e_tn := show Gx 13 = Gx 13 from rfl)  (h_k := ⟨(by decide), (by decide)⟩)  ) (fun o V' hq => ?_)
            obtain ⟨r173, rfl, rfl, b174, q175⟩ := hq
            refine .inr ⟨_, rfl, ?_⟩
            rcases q175 with ⟨rfl, a176, a177, a178⟩ | rfl
            · have _q : True := trivial
              refine jx_if_ne (pc' := 52) (tg := 61) rfl rfl rfl (by decide) (by decide) (fun h179 => ?_) (fun h179 => ?_)
              · have _q := h179
                refine jx_ld (pc' := 62) (l' := L) (st' := [.ref 66]) rfl (jl_aloadn gL_0) ?_
                refine jr_get (pc' := 65) (i := 19) (v := .int (i32 (sy1))) rfl rfl (by decide) (rFv_eq (by decide) (show Gx 19 = sy1 from (ex_sy1))) rfl ?_
                refine jx_ld (pc' := 67) (l' := jSto1 L 5 (.int (i32 (sy1)))) (st' := []) rfl rfl ?_
                obtain ⟨L180, eL180⟩ : ∃ q, q = jSto1 L 5 (.int (i32 (sy1))) := ⟨_, rfl⟩
                rw [← eL180]
                have gL180_0 : jGet L180 0 = some (.ref 66) := eL180 ▸ jg_ne (by decide) gL_0 rfl
                have gL180_1 : jGet L180 1 = some (.int (i32 (lv))) := eL180 ▸ jg_ne (by decide) gL_1 rfl
                have gL180_2 : jGet L180 2 = some (.int (i32 (vi))) := eL180 ▸ jg_ne (by decide) gL_2 rfl
                have gL180_3 : jGet L180 3 = some (.int (i32 (sy))) := eL180 ▸ jg_ne (by decide) gL_3 rfl
                have gL180_4 : jGet L180 4 = some (.int (i32 (dc))) := eL180 ▸ jg_ne (by decide) gL_4 rfl
                have gL180_5 : jGet L180 5 = some (.int (i32 (sy1))) := eL180 ▸ jg_eq
                refine jx_ld (pc' := 68) (l' := L180) (st' := [.ref 66]) rfl (jl_aloadn gL180_0) ?_
                refine jx_vr (pc' := 71) (as := []) (st := []) rfl rfl rfl rfl ⟨rfl, rfl, Nat.le_of_ble_eq_true rfl⟩ rfl rfl (c_readDeclaration (dd := d) (hd := by omega) (hW := hWx)  (ln := ln1) (e_ln := show Gx 9 = ln1 from (ex_ln1)) (le := le1) (e_le := show Ax 4 (ln1).toNat = le1 from (ex_le1)) (at0 := at1) (e_at0 := show Gx 10 = at1 from (ex_at1)) (fk := fk1) (e_fk := show Gx 16 = fk1 from (ex_fk1)) (tk0 := tk1) (e_tk0 := show Gx 11 = tk1 from (ex_tk1)) (li := li) (e_li := show Gx 3 = li from ((hFx.1 3 rfl).trans (e_li))) (sy := sy1) (e_sy := show Gx 19 = sy1 from (ex_sy1)) (na := na1) (e_na := show Gx 28 = na1 from (ex_na1)) (vi := vi1) (e_vi := show Gx 29 = vi1 from (ex_vi1))    (p_0 := by omega) (p_1 := by omega) (p_2 := by omega) (p_3 := by omega) (p_4 := by omega)) (fun o V' hq => ?_)
                obtain ⟨G181, A182, at2_183, fk2_184, ln2_185, sy2_186, na2_187, vi2_188, rfl, rfl, hW189, hF190, hQ191, hQ192, e193, e194, e195, e196, e197, e198, p199, p200, p201, p202, p203, p204, q205⟩ := hq
                have hF206 := Fr_tr hFx hF190 (Fr_sub (by decide)) (Fr_sub (by decide))
                have hP207 := Pf_f hPx hF190 (by decide)
                have hS208 := Fx_tr hSx hQ191 (by omega)
                have hV209 := Fx_tr hVx hQ192 (by omega)
                have sf210 : wD A182 (sy) (sy1) := wD_fx hQ191 (by omega) iv_12
                have sf211 : DS A182 (vi) (vi1) (sy) (sy1) := DS_fx hQ192 (by omega) iv_13
                have bat2_183 : (0 : Int) ≤ at2_183 ∧ at2_183 ≤ 3002 := e193 ▸ hW189.1 10
                have bfk2_184 : (0 : Int) ≤ fk2_184 ∧ fk2_184 ≤ 6 := e194 ▸ hW189.1 16
                have bln2_185 : (0 : Int) ≤ ln2_185 ∧ ln2_185 ≤ 3000 := e195 ▸ hW189.1 9
                have bsy2_186 : (0 : Int) ≤ sy2_186 ∧ sy2_186 ≤ 202 := e196 ▸ hW189.1 19
                have bna2_187 : (0 : Int) ≤ na2_187 ∧ na2_187 ≤ 200 := e197 ▸ hW189.1 28
                have bvi2_188 : (0 : Int) ≤ vi2_188 ∧ vi2_188 ≤ 202 := e198 ▸ hW189.1 29
                refine .inl ⟨rfl, ?_⟩
                rcases q205 with ⟨a212, a213⟩ | ⟨a214, a215, a216, a217⟩
                · have _q : True := trivial
                  refine jx_ld (pc' := 73) (l' := L180) (st' := [.int (i32 (dc))]) rfl (jl_iload gL180_4) ?_
                  refine jx_ld (pc' := 74) (l' := L180) (st' := [.ref 66, .int (i32 (dc))]) rfl (jl_aloadn gL180_0) ?_
                  refine jr_get (pc' := 77) (i := 19) (v := .int (i32 (sy2_186))) rfl rfl (by decide) (rFv_eq (by decide) (show G181 19 = sy2_186 from (e196))) rfl ?_
                  refine jx_add (pc' := 78) rfl rfl ?_
                  refine jx_ld (pc' := 80) (l' := L180) (st' := [.int (i32 (sy1)), .int (i32 ((dc + sy2_186)))]) rfl (jl_iload gL180_5) ?_
                  refine jx_sub (pc' := 81) rfl rfl ?_
                  refine jx_ld (pc' := 83) (l' := jSto1 L180 4 (.int (i32 (((dc + sy2_186) - sy1))))) (st' := []) rfl rfl ?_
                  obtain ⟨L218, eL218⟩ : ∃ q, q = jSto1 L180 4 (.int (i32 (((dc + sy2_186) - sy1)))) := ⟨_, rfl⟩
                  rw [← eL218]
                  have gL218_0 : jGet L218 0 = some (.ref 66) := eL218 ▸ jg_ne (by decide) gL180_0 rfl
                  have gL218_1 : jGet L218 1 = some (.int (i32 (lv))) := eL218 ▸ jg_ne (by decide) gL180_1 rfl
                  have gL218_2 : jGet L218 2 = some (.int (i32 (vi))) := eL218 ▸ jg_ne (by decide) gL180_2 rfl
                  have gL218_3 : jGet L218 3 = some (.int (i32 (sy))) := eL218 ▸ jg_ne (by decide) gL180_3 rfl
                  have gL218_5 : jGet L218 5 = some (.int (i32 (sy1))) := eL218 ▸ jg_ne (by decide) gL180_5 rfl
                  have gL218_4 : jGet L218 4 = some (.int (i32 (((dc + sy2_186) - sy1)))) := eL218 ▸ jg_eq
                  refine jx_ld (pc' := 84) (l' := L218) (st' := [.ref 66]) rfl (jl_aloadn gL218_0) ?_
                  refine jx_ld (pc' := 85) (l' := L218) (st' := [.int (i32 (lv)), .ref 66]) rfl (jl_iloadn gL218_1) ?_
                  have b219 : (-1 : Int) ≤ A 5 (ln2_185).toNat ∧ A 5 (ln2_185).toNat ≤ 15 := hW.2 5 _
                  refine jx_vr (pc' := 88) (as := [.int (i32 (lv))]) (st := []) rfl rfl rfl rfl ⟨rfl, rfl, Nat.le_of_ble_eq_true rfl⟩ rfl rfl (c_needLevel (dd := d) (hd := by omega) (hW := hW189) (lv := lv) (ln := ln2_185) (e_ln := show G181 9 = ln2_185 from (e195)) (li := li) (e_li := show G181 3 = li from ((hF190.1 3 rfl).trans ((hFx.1 3 rfl).trans (e_li)))) (fk := fk2_184) (e_fk := show G181 16 = fk2_184 from (e194)) (ll := A 5 (ln2_185).toNat) (e_ll := show A182 5 (ln2_185).toNat = A 5 (ln2_185).toNat from (congrFun ((hF190.2 5 rfl).trans (hFx.2 5 rfl)) _))  (h_lv := ⟨(Int.le_trans (by decide : (-2147483648 : Int) ≤ -2147483648) h_lv.1), (Int.le_trans h_lv.2 (by decide : (2147483647 : Int) ≤ 2147483647))⟩)  ) (fun o V' hq => ?_)
                  obtain ⟨G220, A221, r222, fk2_223, rfl, rfl, hW224, hF225, b226, e227, q228⟩ := hq
                  have hF229 := Fr_tr hF206 hF225 (Fr_sub (by decide)) (Fr_sub (by decide))
                  have hP230 := Pf_f hP207 hF225 (by decide)
                  have hS231 := Fx_f hS208 hF225 (by decide)
                  have hV232 := Fx_f hV209 hF225 (by decide)
                  have sf233 : wD A221 (sy) (sy1) := wD_fx (Sg_fr (sb := sy1) hF225 (by decide)) (by omega) sf210
                  have sf234 : DS A221 (vi) (vi1) (sy) (sy1) := DS_ext (hF225.2 14 rfl) sf211
                  have bfk2_223 : (0 : Int) ≤ fk2_223 ∧ fk2_223 ≤ 6 := e227 ▸ hW224.1 16
                  refine .inr ⟨_, rfl, ?_⟩
                  rcases q228 with ⟨rfl, a235, a236, a237, a238⟩ | ⟨rfl, a239⟩
                  · have _q : True := trivial
                    exfalso
                    omega
                  · have _q : True := trivial
                    refine jx_if_eq (pc' := 91) (tg := 95) rfl rfl rfl (by decide) (by decide) (fun h240 => ?_) (fun h240 => ?_)
                    · have _q := h240
                      refine jx_go (tg := 27) rfl rfl ?_
                      refine jx_ld (pc' := 28) (l' := L218) (st' := [.ref 66]) rfl (jl_aloadn gL218_0) ?_
                      refine jx_vr (pc' := 31) (as := []) (st := []) rfl rfl rfl rfl ⟨rfl, rfl, Nat.le_of_ble_eq_true rfl⟩ rfl rfl (c_bad (dd := d) (hd := by omega) (hW := hW224)  (fk := fk2_223) (e_fk := show G220 16 = fk2_223 from (e227))    ) (fun o V' hq => ?_)
                      obtain ⟨r241, rfl, rfl, b242, q243⟩ := hq
                      refine .inr ⟨_, rfl, ?_⟩
                      rcases q243 with ⟨rfl, a244⟩ | ⟨rfl, a245⟩
                      · have _q : True := trivial
                        refine jx_if_ne (pc' := 34) (tg := 98) rfl rfl rfl (by decide) (by decide) (fun h246 => ?_) (fun h246 => ?_)
                        · have _q := h246
                          refine jx_ld (pc' := 99) (l' := L218) (st' := [.ref 66]) rfl (jl_aloadn gL218_0) ?_
                          refine jx_vr (pc' := 102) (as := []) (st := []) rfl rfl rfl rfl ⟨rfl, rfl, Nat.le_of_ble_eq_true rfl⟩ rfl rfl (c_bad (dd := d) (hd := by omega) (hW := hW224)  (fk := fk2_223) (e_fk := show G220 16 = fk2_223 from (e227))    ) (fun o V' hq => ?_)
                          obtain ⟨r247, rfl, rfl, b248, q249⟩ := hq
                          refine .inr ⟨_, rfl, ?_⟩
                          rcases q249 with ⟨rfl, a250⟩ | ⟨rfl, a251⟩
                          · have _q : True := trivial
                            refine jx_if_eq (pc' := 105) (tg := 109) rfl rfl rfl (by decide) (by decide) (fun h252 => ?_) (fun h252 => ?_)
                            · have _q := h252
                              exact absurd h252 (by omega)
                            · have _q := h252
                              refine jx_ar (pc' := 106) (st' := [.int (i32 (0))]) rfl rfl rfl rfl ?_
                              refine jx_go (tg := 114) rfl rfl ?_
                              refine jx_ld (pc' := 116) (l' := jSto1 L218 5 (.int (i32 (0)))) (st' := []) rfl rfl ?_
                              obtain ⟨L253, eL253⟩ : ∃ q, q = jSto1 L218 5 (.int (i32 (0))) := ⟨_, rfl⟩
                              rw [← eL253]
                              have gL253_0 : jGet L253 0 = some (.ref 66) := eL253 ▸ jg_ne (by decide) gL218_0 rfl
                              have gL253_1 : jGet L253 1 = some (.int (i32 (lv))) := eL253 ▸ jg_ne (by decide) gL218_1 rfl
                              have gL253_2 : jGet L253 2 = some (.int (i32 (vi))) := eL253 ▸ jg_ne (by decide) gL218_2 rfl
                              have gL253_3 : jGet L253 3 = some (.int (i32 (sy))) := eL253 ▸ jg_ne (by decide) gL218_3 rfl
                              have gL253_4 : jGet L253 4 = some (.int (i32 (((dc + sy2_186) - sy1)))) := eL253 ▸ jg_ne (by decide) gL218_4 rfl
                              have gL253_5 : jGet L253 5 = some (.int (i32 (0))) := eL253 ▸ jg_eq
                              refine jx_ld (pc' := 117) (l' := L253) (st' := [.ref 66]) rfl (jl_aloadn gL253_0) ?_
                              refine jx_vr (pc' := 120) (as := []) (st := []) rfl rfl rfl rfl ⟨rfl, rfl, Nat.le_of_ble_eq_true rfl⟩ rfl rfl (c_bad (dd := d) (hd := by omega) (hW := hW224)  (fk := fk2_223) (e_fk := show G220 16 = fk2_223 from (e227))    ) (fun o V' hq => ?_)
                              obtain ⟨r254, rfl, rfl, b255, q256⟩ := hq
                              refine .inr ⟨_, rfl, ?_⟩
                              rcases q256 with ⟨rfl, a257⟩ | ⟨rfl, a258⟩
                              · have _q : True := trivial
                                refine jx_if_ne (pc' := 123) (tg := 140) rfl rfl rfl (by decide) (by decide) (fun h259 => ?_) (fun h259 => ?_)
                                · have _q := h259
                                  refine jx_ld (pc' := 141) (l' := L253) (st' := [.ref 66]) rfl (jl_aloadn gL253_0) ?_
                                  refine jx_ld (pc' := 142) (l' := L253) (st' := [.int (i32 (vi)), .ref 66]) rfl (jl_iloadn gL253_2) ?_
                                  refine jr_put (pc' := 145) (i := 29) (z := vi) rfl rfl (by decide) rfl rfl rfl rfl rfl rfl ?_
                                  have hW260 : Wk (uG G220 29 (vi)) A221 := Wk_g hW224 (show (0 : Int) ≤ vi by omega) (show vi ≤ (202 : Int) by omega)
                                  have hF261 := Fr_g (z := vi) (i := 29) hF229 (by decide)
                                  refine jx_ld (pc' := 147) (l' := L253) (st' := [.int (i32 (0))]) rfl (jl_iload gL253_5) ?_
                                  refine jx_rt (v := some (.int (i32 (0)))) rfl rfl rfl rfl rfl rfl ?_
                                  exact ⟨_, _, _, ln2_185, at2_183, fk2_223, nd, sy2_186, na2_187, vi, A 3 (ln2_185).toNat, rfl, rfl, hW260, hF261, hP230, hS231, hV232, by omega, ((hF225.1 9 rfl).trans (e195)), ((hF225.1 10 rfl).trans (e193)), (e227), ((hF225.1 31 rfl).trans ((hF190.1 31 rfl).trans (fx_31))), ((hF225.1 19 rfl).trans (e196)), ((hF225.1 28 rfl).trans (e197)), rfl, (congrFun ((hF225.2 3 rfl).trans ((hF190.2 3 rfl).trans (hFx.2 3 rfl))) _), by omega, by omega, by omega, by omega, by omega, by omega, by omega, by omega, by omega, by first | exact Or.inl (⟨by omega, by omega⟩)⟩
                                · have _q := h259
                                  exact absurd h259 (by omega)
                              · have _q : True := trivial
                                exfalso
                                omega
                          · have _q : True := trivial
                            exfalso
                            omega
                        · have _q := h246
                          exact absurd h246 (by omega)
                      · have _q : True := trivial
                        exfalso
                        omega
                    · have _q := h240
                      exact absurd h240 (by omega)
                · have _q : True := trivial
                  have b262 : (0 : Int) ≤ A 3 (ln2_185).toNat ∧ A 3 (ln2_185).toNat ≤ 3000 := hW.2 3 _
                  have lt263 : ln2_185 < li → le1 < A 3 (ln2_185).toNat := fun hh => LT_nx (LT_ext (((hF190.1 3 rfl).trans (hFx.1 3 rfl))) (((hF190.2 3 rfl).trans (hFx.2 3 rfl))) (((hF190.2 4 rfl).trans (hFx.2 4 rfl))) i_LT) (show G181 3 = li from ((hF190.1 3 rfl).trans ((hFx.1 3 rfl).trans (e_li)))) (show A182 4 (ln1).toNat = le1 from (congrFun (hF190.2 4 rfl) _).trans (ex_le1)) (show A182 3 (ln2_185).toNat = A 3 (ln2_185).toNat from (congrFun ((hF190.2 3 rfl).trans (hFx.2 3 rfl)) _)) (show ln2_185 = ln1 + 1 by omega) (by omega) hh
                  refine jx_ld (pc' := 73) (l' := L180) (st' := [.int (i32 (dc))]) rfl (jl_iload gL180_4) ?_
                  refine jx_ld (pc' := 74) (l' := L180) (st' := [.ref 66, .int (i32 (dc))]) rfl (jl_aloadn gL180_0) ?_
                  refine jr_get (pc' := 77) (i := 19) (v := .int (i32 (sy2_186))) rfl rfl (by decide) (rFv_eq (by decide) (show G181 19 = sy2_186 from (e196))) rfl ?_
                  refine jx_add (pc' := 78) rfl rfl ?_
                  refine jx_ld (pc' := 80) (l' := L180) (st' := [.int (i32 (sy1)), .int (i32 ((dc + sy2_186)))]) rfl (jl_iload gL180_5) ?_
                  refine jx_sub (pc' := 81) rfl rfl ?_
                  refine jx_ld (pc' := 83) (l' := jSto1 L180 4 (.int (i32 (((dc + sy2_186) - sy1))))) (st' := []) rfl rfl ?_
                  obtain ⟨L264, eL264⟩ : ∃ q, q = jSto1 L180 4 (.int (i32 (((dc + sy2_186) - sy1)))) := ⟨_, rfl⟩
                  rw [← eL264]
                  have gL264_0 : jGet L264 0 = some (.ref 66) := eL264 ▸ jg_ne (by decide) gL180_0 rfl
                  have gL264_1 : jGet L264 1 = some (.int (i32 (lv))) := eL264 ▸ jg_ne (by decide) gL180_1 rfl
                  have gL264_2 : jGet L264 2 = some (.int (i32 (vi))) := eL264 ▸ jg_ne (by decide) gL180_2 rfl
                  have gL264_3 : jGet L264 3 = some (.int (i32 (sy))) := eL264 ▸ jg_ne (by decide) gL180_3 rfl
                  have gL264_5 : jGet L264 5 = some (.int (i32 (sy1))) := eL264 ▸ jg_ne (by decide) gL180_5 rfl
                  have gL264_4 : jGet L264 4 = some (.int (i32 (((dc + sy2_186) - sy1)))) := eL264 ▸ jg_eq
                  refine jx_ld (pc' := 84) (l' := L264) (st' := [.ref 66]) rfl (jl_aloadn gL264_0) ?_
                  refine jx_ld (pc' := 85) (l' := L264) (st' := [.int (i32 (lv)), .ref 66]) rfl (jl_iloadn gL264_1) ?_
                  have b265 : (-1 : Int) ≤ A 5 (ln2_185).toNat ∧ A 5 (ln2_185).toNat ≤ 15 := hW.2 5 _
                  refine jx_vr (pc' := 88) (as := [.int (i32 (lv))]) (st := []) rfl rfl rfl rfl ⟨rfl, rfl, Nat.le_of_ble_eq_true rfl⟩ rfl rfl (c_needLevel (dd := d) (hd := by omega) (hW := hW189) (lv := lv) (ln := ln2_185) (e_ln := show G181 9 = ln2_185 from (e195)) (li := li) (e_li := show G181 3 = li from ((hF190.1 3 rfl).trans ((hFx.1 3 rfl).trans (e_li)))) (fk := fk2_184) (e_fk := show G181 16 = fk2_184 from (e194)) (ll := A 5 (ln2_185).toNat) (e_ll := show A182 5 (ln2_185).toNat = A 5 (ln2_185).toNat from (congrFun ((hF190.2 5 rfl).trans (hFx.2 5 rfl)) _))  (h_lv := ⟨(Int.le_trans (by decide : (-2147483648 : Int) ≤ -2147483648) h_lv.1), (Int.le_trans h_lv.2 (by decide : (2147483647 : Int) ≤ 2147483647))⟩)  ) (fun o V' hq => ?_)
                  obtain ⟨G266, A267, r268, fk2_269, rfl, rfl, hW270, hF271, b272, e273, q274⟩ := hq
                  have hF275 := Fr_tr hF206 hF271 (Fr_sub (by decide)) (Fr_sub (by decide))
                  have hP276 := Pf_f hP207 hF271 (by decide)
                  have hS277 := Fx_f hS208 hF271 (by decide)
                  have hV278 := Fx_f hV209 hF271 (by decide)
                  have sf279 : wD A267 (sy) (sy1) := wD_fx (Sg_fr (sb := sy1) hF271 (by decide)) (by omega) sf210
                  have sf280 : DS A267 (vi) (vi1) (sy) (sy1) := DS_ext (hF271.2 14 rfl) sf211
                  have sf281 : wD A267 (sy1) (sy2_186) := wD_fx (Sg_fr (sb := sy2_186) hF271 (by decide)) (by omega) a216
                  have sf282 : DS A267 (vi1) (vi2_188) (sy1) (sy2_186) := DS_ext (hF271.2 14 rfl) a217
                  have bfk2_269 : (0 : Int) ≤ fk2_269 ∧ fk2_269 ≤ 6 := e273 ▸ hW270.1 16
                  refine .inr ⟨_, rfl, ?_⟩
                  rcases q274 with ⟨rfl, a283, a284, a285, a286⟩ | ⟨rfl, a287⟩
                  · have _q : True := trivial
                    have b288 : (0 : Int) ≤ A 4 (ln2_185).toNat ∧ A 4 (ln2_185).toNat ≤ 3000 := hW.2 4 _
                    have lt289 : A 3 (ln2_185).toNat < A 4 (ln2_185).toNat := LT_at (LT_ext (((hF271.1 3 rfl).trans ((hF190.1 3 rfl).trans (hFx.1 3 rfl)))) (((hF271.2 3 rfl).trans ((hF190.2 3 rfl).trans (hFx.2 3 rfl)))) (((hF271.2 4 rfl).trans ((hF190.2 4 rfl).trans (hFx.2 4 rfl)))) i_LT) (show G266 3 = li from ((hF271.1 3 rfl).trans ((hF190.1 3 rfl).trans ((hFx.1 3 rfl).trans (e_li))))) (show A267 3 (ln2_185).toNat = A 3 (ln2_185).toNat from (congrFun ((hF271.2 3 rfl).trans ((hF190.2 3 rfl).trans (hFx.2 3 rfl))) _)) (show A267 4 (ln2_185).toNat = A 4 (ln2_185).toNat from (congrFun ((hF271.2 4 rfl).trans ((hF190.2 4 rfl).trans (hFx.2 4 rfl))) _)) (by omega) (by omega)
                    refine jx_if_eq (pc' := 91) (tg := 95) rfl rfl rfl (by decide) (by decide) (fun h290 => ?_) (fun h290 => ?_)
                    · have _q := h290
                      exact absurd h290 (by omega)
                    · have _q := h290
                      refine jx_ld (pc' := 92) (l' := L264) (st' := [.ref 66]) rfl (jl_aloadn gL264_0) ?_
                      refine jx_vr (pc' := 95) (as := []) (st := []) rfl rfl rfl rfl ⟨rfl, rfl, Nat.le_of_ble_eq_true rfl⟩ rfl rfl (c_openLine (dd := d) (hd := by omega) (hW := hW270)  (ln := ln2_185) (e_ln := show G266 9 = ln2_185 from ((hF271.1 9 rfl).trans (e195))) (le := A 4 (ln2_185).toNat) (e_le := show A267 4 (ln2_185).toNat = A 4 (ln2_185).toNat from (congrFun ((hF271.2 4 rfl).trans ((hF190.2 4 rfl).trans (hFx.2 4 rfl))) _)) (lf := A 3 (ln2_185).toNat) (e_lf := show A267 3 (ln2_185).toNat = A 3 (ln2_185).toNat from (congrFun ((hF271.2 3 rfl).trans ((hF190.2 3 rfl).trans (hFx.2 3 rfl))) _))    (p_0 := by omega)) (fun o V' hq => ?_)
                      obtain ⟨G291, A292, at2_293, tk2_294, op2_295, rfl, rfl, hW296, hF297, e298, e299, e300, p301, p302, p303, p304, -⟩ := hq
                      have hF306 := Fr_tr hF275 hF297 (Fr_sub (by decide)) (Fr_sub (by decide))
                      have hP307 := Pf_f hP276 hF297 (by decide)
                      have hS308 := Fx_f hS277 hF297 (by decide)
                      have hV309 := Fx_f hV278 hF297 (by decide)
                      have sf310 : wD A292 (sy) (sy1) := wD_fx (Sg_fr (sb := sy1) hF297 (by decide)) (by omega) sf279
                      have sf311 : DS A292 (vi) (vi1) (sy) (sy1) := DS_ext (hF297.2 14 rfl) sf280
                      have sf312 : wD A292 (sy1) (sy2_186) := wD_fx (Sg_fr (sb := sy2_186) hF297 (by decide)) (by omega) sf281
                      have sf313 : DS A292 (vi1) (vi2_188) (sy1) (sy2_186) := DS_ext (hF297.2 14 rfl) sf282
                      have bat2_293 : (0 : Int) ≤ at2_293 ∧ at2_293 ≤ 3002 := e298 ▸ hW296.1 10
                      have ztk2_294 := tz_b tk2_294
                      have btk2_294 : (0 : Int) ≤ tk2_294 ∧ tk2_294 ≤ 5 := e299 ▸ hW296.1 11
                      have bop2_295 : (-2147483648 : Int) ≤ op2_295 ∧ op2_295 ≤ 2147483647 := e300 ▸ hW296.1 15
                      refine .inl ⟨rfl, ?_⟩
                      refine jx_go (tg := 27) rfl rfl ?_
                      have z314 := tz_f (tk2_294)
                      exact ih27 _ (by omega) L264 G291 A292 (((dc + sy2_186) - sy1)) (ln2_185) (at2_293) (tk2_294) (fk2_269) (op2_295) (sy2_186) (na2_187) (vi2_188) (A 4 (ln2_185).toNat) rfl gL264_0 gL264_1 gL264_2 gL264_3 gL264_4 hW296 hF306 hP307 hS308 hV309 (((hF297.1 9 rfl).trans ((hF271.1 9 rfl).trans (e195)))) ((e298)) ((e299)) (((hF297.1 16 rfl).trans (e273))) ((e300)) (((hF297.1 19 rfl).trans ((hF271.1 19 rfl).trans (e196)))) (((hF297.1 28 rfl).trans ((hF271.1 28 rfl).trans (e197)))) (((hF297.1 29 rfl).trans ((hF271.1 29 rfl).trans (e198)))) ((congrFun ((hF297.2 4 rfl).trans ((hF271.2 4 rfl).trans ((hF190.2 4 rfl).trans (hFx.2 4 rfl)))) _)) (((hF297.1 31 rfl).trans ((hF271.1 31 rfl).trans ((hF190.1 31 rfl).trans (fx_31))))) (by omega) (by omega) (by omega) (by omega) (by omega) (by omega) (by omega) (by omega) (by omega) (by omega) (by omega) (by omega) (by omega) ((wD_tr sf310 sf312)) ((DS_app sf311 sf313 (by omega) (by omega)))
                  · have _q : True := trivial
                    refine jx_if_eq (pc' := 91) (tg := 95) rfl rfl rfl (by decide) (by decide) (fun h315 => ?_) (fun h315 => ?_)
                    · have _q := h315
                      refine jx_go (tg := 27) rfl rfl ?_
                      refine jx_ld (pc' := 28) (l' := L264) (st' := [.ref 66]) rfl (jl_aloadn gL264_0) ?_
                      refine jx_vr (pc' := 31) (as := []) (st := []) rfl rfl rfl rfl ⟨rfl, rfl, Nat.le_of_ble_eq_true rfl⟩ rfl rfl (c_bad (dd := d) (hd := by omega) (hW := hW270)  (fk := fk2_269) (e_fk := show G266 16 = fk2_269 from (e273))    ) (fun o V' hq => ?_)
                      obtain ⟨r316, rfl, rfl, b317, q318⟩ := hq
                      refine .inr ⟨_, rfl, ?_⟩
                      rcases q318 with ⟨rfl, a319⟩ | ⟨rfl, a320⟩
                      · have _q : True := trivial
                        refine jx_if_ne (pc' := 34) (tg := 98) rfl rfl rfl (by decide) (by decide) (fun h321 => ?_) (fun h321 => ?_)
                        · have _q := h321
                          refine jx_ld (pc' := 99) (l' := L264) (st' := [.ref 66]) rfl (jl_aloadn gL264_0) ?_
                          refine jx_vr (pc' := 102) (as := []) (st := []) rfl rfl rfl rfl ⟨rfl, rfl, Nat.le_of_ble_eq_true rfl⟩ rfl rfl (c_bad (dd := d) (hd := by omega) (hW := hW270)  (fk := fk2_269) (e_fk := show G266 16 = fk2_269 from (e273))    ) (fun o V' hq => ?_)
                          obtain ⟨r322, rfl, rfl, b323, q324⟩ := hq
                          refine .inr ⟨_, rfl, ?_⟩
                          rcases q324 with ⟨rfl, a325⟩ | ⟨rfl, a326⟩
                          · have _q : True := trivial
                            refine jx_if_eq (pc' := 105) (tg := 109) rfl rfl rfl (by decide) (by decide) (fun h327 => ?_) (fun h327 => ?_)
                            · have _q := h327
                              exact absurd h327 (by omega)
                            · have _q := h327
                              refine jx_ar (pc' := 106) (st' := [.int (i32 (0))]) rfl rfl rfl rfl ?_
                              refine jx_go (tg := 114) rfl rfl ?_
                              refine jx_ld (pc' := 116) (l' := jSto1 L264 5 (.int (i32 (0)))) (st' := []) rfl rfl ?_
                              obtain ⟨L328, eL328⟩ : ∃ q, q = jSto1 L264 5 (.int (i32 (0))) := ⟨_, rfl⟩
                              rw [← eL328]
                              have gL328_0 : jGet L328 0 = some (.ref 66) := eL328 ▸ jg_ne (by decide) gL264_0 rfl
                              have gL328_1 : jGet L328 1 = some (.int (i32 (lv))) := eL328 ▸ jg_ne (by decide) gL264_1 rfl
                              have gL328_2 : jGet L328 2 = some (.int (i32 (vi))) := eL328 ▸ jg_ne (by decide) gL264_2 rfl
                              have gL328_3 : jGet L328 3 = some (.int (i32 (sy))) := eL328 ▸ jg_ne (by decide) gL264_3 rfl
                              have gL328_4 : jGet L328 4 = some (.int (i32 (((dc + sy2_186) - sy1)))) := eL328 ▸ jg_ne (by decide) gL264_4 rfl
                              have gL328_5 : jGet L328 5 = some (.int (i32 (0))) := eL328 ▸ jg_eq
                              refine jx_ld (pc' := 117) (l' := L328) (st' := [.ref 66]) rfl (jl_aloadn gL328_0) ?_
                              refine jx_vr (pc' := 120) (as := []) (st := []) rfl rfl rfl rfl ⟨rfl, rfl, Nat.le_of_ble_eq_true rfl⟩ rfl rfl (c_bad (dd := d) (hd := by omega) (hW := hW270)  (fk := fk2_269) (e_fk := show G266 16 = fk2_269 from (e273))    ) (fun o V' hq => ?_)
                              obtain ⟨r329, rfl, rfl, b330, q331⟩ := hq
                              refine .inr ⟨_, rfl, ?_⟩
                              rcases q331 with ⟨rfl, a332⟩ | ⟨rfl, a333⟩
                              · have _q : True := trivial
                                refine jx_if_ne (pc' := 123) (tg := 140) rfl rfl rfl (by decide) (by decide) (fun h334 => ?_) (fun h334 => ?_)
                                · have _q := h334
                                  refine jx_ld (pc' := 141) (l' := L328) (st' := [.ref 66]) rfl (jl_aloadn gL328_0) ?_
                                  refine jx_ld (pc' := 142) (l' := L328) (st' := [.int (i32 (vi)), .ref 66]) rfl (jl_iloadn gL328_2) ?_
                                  refine jr_put (pc' := 145) (i := 29) (z := vi) rfl rfl (by decide) rfl rfl rfl rfl rfl rfl ?_
                                  have hW335 : Wk (uG G266 29 (vi)) A267 := Wk_g hW270 (show (0 : Int) ≤ vi by omega) (show vi ≤ (202 : Int) by omega)
                                  have hF336 := Fr_g (z := vi) (i := 29) hF275 (by decide)
                                  refine jx_ld (pc' := 147) (l' := L328) (st' := [.int (i32 (0))]) rfl (jl_iload gL328_5) ?_
                                  refine jx_rt (v := some (.int (i32 (0)))) rfl rfl rfl rfl rfl rfl ?_
                                  exact ⟨_, _, _, ln2_185, at2_183, fk2_269, nd, sy2_186, na2_187, vi, A 3 (ln2_185).toNat, rfl, rfl, hW335, hF336, hP276, hS277, hV278, by omega, ((hF271.1 9 rfl).trans (e195)), ((hF271.1 10 rfl).trans (e193)), (e273), ((hF271.1 31 rfl).trans ((hF190.1 31 rfl).trans (fx_31))), ((hF271.1 19 rfl).trans (e196)), ((hF271.1 28 rfl).trans (e197)), rfl, (congrFun ((hF271.2 3 rfl).trans ((hF190.2 3 rfl).trans (hFx.2 3 rfl))) _), by omega, by omega, by omega, by omega, by omega, by omega, by omega, by omega, by omega, by first | exact Or.inl (⟨by omega, by omega⟩)⟩
                                · have _q := h334
                                  exact absurd h334 (by omega)
                              · have _q : True := trivial
                                exfalso
                                omega
                          · have _q : True := trivial
                            exfalso
                            omega
                        · have _q := h321
                          exact absurd h321 (by omega)
                      · have _q : True := trivial
                        exfalso
                        omega
                    · have _q := h315
                      exact absurd h315 (by omega)
              · have _q := h179
                exact absurd h179 (by omega)
            · have _q : True := trivial
              refine jx_if_ne (pc' := 52) (tg := 61) rfl rfl rfl (by decide) (by decide) (fun h337 => ?_) (fun h337 => ?_)
              · have _q := h337
                exact absurd h337 (by omega)
              · have _q := h337
                refine jx_ld (pc' := 53) (l' := L) (st' := [.ref 66]) rfl (jl_aloadn gL_0) ?_
                refine jx_ar (pc' := 55) (st' := [.int (i32 (91)), .ref 66]) rfl rfl rfl rfl ?_
                refine jx_vr (pc' := 58) (as := [.int (i32 (91))]) (st := []) rfl rfl rfl rfl ⟨rfl, rfl, Nat.le_of_ble_eq_true rfl⟩ rfl rfl (c_is (dd := d) (hd := by omega) (hW := hWx) (k := 91) (tk := tk1) (e_tk := show Gx 11 = tk1 from (ex_tk1)) (tn := Gx 13) (e_tn := show Gx 13 = Gx 13 from rfl)  (h_k := ⟨(by decide), (by decide)⟩)  ) (fun o V' hq => ?_)
                obtain ⟨r338, rfl, rfl, b339, q340⟩ := hq
                refine .inr ⟨_, rfl, ?_⟩
                rcases q340 with ⟨rfl, a341, a342, a343⟩ | rfl
                · have _q : True := trivial
                  refine jx_if_eq (pc' := 61) (tg := 98) rfl rfl rfl (by decide) (by decide) (fun h344 => ?_) (fun h344 => ?_)
                  · have _q := h344
                    exact absurd h344 (by omega)
                  · have _q := h344
                    refine jx_ld (pc' := 62) (l' := L) (st' := [.ref 66]) rfl (jl_aloadn gL_0) ?_
                    refine jr_get (pc' := 65) (i := 19) (v := .int (i32 (sy1))) rfl rfl (by decide) (rFv_eq (by decide) (show Gx 19 = sy1 from (ex_sy1))) rfl ?_
                    refine jx_ld (pc' := 67) (l' := jSto1 L 5 (.int (i32 (sy1)))) (st' := []) rfl rfl ?_
                    obtain ⟨L345, eL345⟩ : ∃ q, q = jSto1 L 5 (.int (i32 (sy1))) := ⟨_, rfl⟩
                    rw [← eL345]
                    have gL345_0 : jGet L345 0 = some (.ref 66) := eL345 ▸ jg_ne (by decide) gL_0 rfl
                    have gL345_1 : jGet L345 1 = some (.int (i32 (lv))) := eL345 ▸ jg_ne (by decide) gL_1 rfl
                    have gL345_2 : jGet L345 2 = some (.int (i32 (vi))) := eL345 ▸ jg_ne (by decide) gL_2 rfl
                    have gL345_3 : jGet L345 3 = some (.int (i32 (sy))) := eL345 ▸ jg_ne (by decide) gL_3 rfl
                    have gL345_4 : jGet L345 4 = some (.int (i32 (dc))) := eL345 ▸ jg_ne (by decide) gL_4 rfl
                    have gL345_5 : jGet L345 5 = some (.int (i32 (sy1))) := eL345 ▸ jg_eq
                    refine jx_ld (pc' := 68) (l' := L345) (st' := [.ref 66]) rfl (jl_aloadn gL345_0) ?_
                    refine jx_vr (pc' := 71) (as := []) (st := []) rfl rfl rfl rfl ⟨rfl, rfl, Nat.le_of_ble_eq_true rfl⟩ rfl rfl (c_readDeclaration (dd := d) (hd := by omega) (hW := hWx)  (ln := ln1) (e_ln := show Gx 9 = ln1 from (ex_ln1)) (le := le1) (e_le := show Ax 4 (ln1).toNat = le1 from (ex_le1)) (at0 := at1) (e_at0 := show Gx 10 = at1 from (ex_at1)) (fk := fk1) (e_fk := show Gx 16 = fk1 from (ex_fk1)) (tk0 := tk1) (e_tk0 := show Gx 11 = tk1 from (ex_tk1)) (li := li) (e_li := show Gx 3 = li from ((hFx.1 3 rfl).trans (e_li))) (sy := sy1) (e_sy := show Gx 19 = sy1 from (ex_sy1)) (na := na1) (e_na := show Gx 28 = na1 from (ex_na1)) (vi := vi1) (e_vi := show Gx 29 = vi1 from (ex_vi1))    (p_0 := by omega) (p_1 := by omega) (p_2 := by omega) (p_3 := by omega) (p_4 := by omega)) (fun o V' hq => ?_)
                    obtain ⟨G346, A347, at2_348, fk2_349, ln2_350, sy2_351, na2_352, vi2_353, rfl, rfl, hW354, hF355, hQ356, hQ357, e358, e359, e360, e361, e362, e363, p364, p365, p366, p367, p368, p369, q370⟩ := hq
                    have hF371 := Fr_tr hFx hF355 (Fr_sub (by decide)) (Fr_sub (by decide))
                    have hP372 := Pf_f hPx hF355 (by decide)
                    have hS373 := Fx_tr hSx hQ356 (by omega)
                    have hV374 := Fx_tr hVx hQ357 (by omega)
                    have sf375 : wD A347 (sy) (sy1) := wD_fx hQ356 (by omega) iv_12
                    have sf376 : DS A347 (vi) (vi1) (sy) (sy1) := DS_fx hQ357 (by omega) iv_13
                    have bat2_348 : (0 : Int) ≤ at2_348 ∧ at2_348 ≤ 3002 := e358 ▸ hW354.1 10
                    have bfk2_349 : (0 : Int) ≤ fk2_349 ∧ fk2_349 ≤ 6 := e359 ▸ hW354.1 16
                    have bln2_350 : (0 : Int) ≤ ln2_350 ∧ ln2_350 ≤ 3000 := e360 ▸ hW354.1 9
                    have bsy2_351 : (0 : Int) ≤ sy2_351 ∧ sy2_351 ≤ 202 := e361 ▸ hW354.1 19
                    have bna2_352 : (0 : Int) ≤ na2_352 ∧ na2_352 ≤ 200 := e362 ▸ hW354.1 28
                    have bvi2_353 : (0 : Int) ≤ vi2_353 ∧ vi2_353 ≤ 202 := e363 ▸ hW354.1 29
                    refine .inl ⟨rfl, ?_⟩
                    rcases q370 with ⟨a377, a378⟩ | ⟨a379, a380, a381, a382⟩
                    · have _q : True := trivial
                      refine jx_ld (pc' := 73) (l' := L345) (st' := [.int (i32 (dc))]) rfl (jl_iload gL345_4) ?_
                      refine jx_ld (pc' := 74) (l' := L345) (st' := [.ref 66, .int (i32 (dc))]) rfl (jl_aloadn gL345_0) ?_
                      refine jr_get (pc' := 77) (i := 19) (v := .int (i32 (sy2_351))) rfl rfl (by decide) (rFv_eq (by decide) (show G346 19 = sy2_351 from (e361))) rfl ?_
                      refine jx_add (pc' := 78) rfl rfl ?_
                      refine jx_ld (pc' := 80) (l' := L345) (st' := [.int (i32 (sy1)), .int (i32 ((dc + sy2_351)))]) rfl (jl_iload gL345_5) ?_
                      refine jx_sub (pc' := 81) rfl rfl ?_
                      refine jx_ld (pc' := 83) (l' := jSto1 L345 4 (.int (i32 (((dc + sy2_351) - sy1))))) (st' := []) rfl rfl ?_
                      obtain ⟨L383, eL383⟩ : ∃ q, q = jSto1 L345 4 (.int (i32 (((dc + sy2_351) - sy1)))) := ⟨_, rfl⟩
                      rw [← eL383]
                      have gL383_0 : jGet L383 0 = some (.ref 66) := eL383 ▸ jg_ne (by decide) gL345_0 rfl
                      have gL383_1 : jGet L383 1 = some (.int (i32 (lv))) := eL383 ▸ jg_ne (by decide) gL345_1 rfl
                      have gL383_2 : jGet L383 2 = some (.int (i32 (vi))) := eL383 ▸ jg_ne (by decide) gL345_2 rfl
                      have gL383_3 : jGet L383 3 = some (.int (i32 (sy))) := eL383 ▸ jg_ne (by decide) gL345_3 rfl
                      have gL383_5 : jGet L383 5 = some (.int (i32 (sy1))) := eL383 ▸ jg_ne (by decide) gL345_5 rfl
                      have gL383_4 : jGet L383 4 = some (.int (i32 (((dc + sy2_351) - sy1)))) := eL383 ▸ jg_eq
                      refine jx_ld (pc' := 84) (l' := L383) (st' := [.ref 66]) rfl (jl_aloadn gL383_0) ?_
                      refine jx_ld (pc' := 85) (l' := L383) (st' := [.int (i32 (lv)), .ref 66]) rfl (jl_iloadn gL383_1) ?_
                      have b384 : (-1 : Int) ≤ A 5 (ln2_350).toNat ∧ A 5 (ln2_350).toNat ≤ 15 := hW.2 5 _
                      refine jx_vr (pc' := 88) (as := [.int (i32 (lv))]) (st := []) rfl rfl rfl rfl ⟨rfl, rfl, Nat.le_of_ble_eq_true rfl⟩ rfl rfl (c_needLevel (dd := d) (hd := by omega) (hW := hW354) (lv := lv) (ln := ln2_350) (e_ln := show G346 9 = ln2_350 from (e360)) (li := li) (e_li := show G346 3 = li from ((hF355.1 3 rfl).trans ((hFx.1 3 rfl).trans (e_li)))) (fk := fk2_349) (e_fk := show G346 16 = fk2_349 from (e359)) (ll := A 5 (ln2_350).toNat) (e_ll := show A347 5 (ln2_350).toNat = A 5 (ln2_350).toNat from (congrFun ((hF355.2 5 rfl).trans (hFx.2 5 rfl)) _))  (h_lv := ⟨(Int.le_trans (by decide : (-2147483648 : Int) ≤ -2147483648) h_lv.1), (Int.le_trans h_lv.2 (by decide : (2147483647 : Int) ≤ 2147483647))⟩)  ) (fun o V' hq => ?_)
                      obtain ⟨G385, A386, r387, fk2_388, rfl, rfl, hW389, hF390, b391, e392, q393⟩ := hq
                      have hF394 := Fr_tr hF371 hF390 (Fr_sub (by decide)) (Fr_sub (by decide))
                      have hP395 := Pf_f hP372 hF390 (by decide)
                      have hS396 := Fx_f hS373 hF390 (by decide)
                      have hV397 := Fx_f hV374 hF390 (by decide)
                      have sf398 : wD A386 (sy) (sy1) := wD_fx (Sg_fr (sb := sy1) hF390 (by decide)) (by omega) sf375
                      have sf399 : DS A386 (vi) (vi1) (sy) (sy1) := DS_ext (hF390.2 14 rfl) sf376
                      have bfk2_388 : (0 : Int) ≤ fk2_388 ∧ fk2_388 ≤ 6 := e392 ▸ hW389.1 16
                      refine .inr ⟨_, rfl, ?_⟩
                      rcases q393 with ⟨rfl, a400, a401, a402, a403⟩ | ⟨rfl, a404⟩
                      · have _q : True := trivial
                        exfalso
                        omega
                      · have _q : True := trivial
                        refine jx_if_eq (pc' := 91) (tg := 95) rfl rfl rfl (by decide) (by decide) (fun h405 => ?_) (fun h405 => ?_)
                        · have _q := h405
                          refine jx_go (tg := 27) rfl rfl ?_
                          refine jx_ld (pc' := 28) (l' := L383) (st' := [.ref 66]) rfl (jl_aloadn gL383_0) ?_
                          refine jx_vr (pc' := 31) (as := []) (st := []) rfl rfl rfl rfl ⟨rfl, rfl, Nat.le_of_ble_eq_true rfl⟩ rfl rfl (c_bad (dd := d) (hd := by omega) (hW := hW389)  (fk := fk2_388) (e_fk := show G385 16 = fk2_388 from (e392))    ) (fun o V' hq => ?_)
                          obtain ⟨r406, rfl, rfl, b407, q408⟩ := hq
                          refine .inr ⟨_, rfl, ?_⟩
                          rcases q408 with ⟨rfl, a409⟩ | ⟨rfl, a410⟩
                          · have _q : True := trivial
                            refine jx_if_ne (pc' := 34) (tg := 98) rfl rfl rfl (by decide) (by decide) (fun h411 => ?_) (fun h411 => ?_)
                            · have _q := h411
                              refine jx_ld (pc' := 99) (l' := L383) (st' := [.ref 66]) rfl (jl_aloadn gL383_0) ?_
                              refine jx_vr (pc' := 102) (as := []) (st := []) rfl rfl rfl rfl ⟨rfl, rfl, Nat.le_of_ble_eq_true rfl⟩ rfl rfl (c_bad (dd := d) (hd := by omega) (hW := hW389)  (fk := fk2_388) (e_fk := show G385 16 = fk2_388 from (e392))    ) (fun o V' hq => ?_)
                              obtain ⟨r412, rfl, rfl, b413, q414⟩ := hq
                              refine .inr ⟨_, rfl, ?_⟩
                              rcases q414 with ⟨rfl, a415⟩ | ⟨rfl, a416⟩
                              · have _q : True := trivial
                                refine jx_if_eq (pc' := 105) (tg := 109) rfl rfl rfl (by decide) (by decide) (fun h417 => ?_) (fun h417 => ?_)
                                · have _q := h417
                                  exact absurd h417 (by omega)
                                · have _q := h417
                                  refine jx_ar (pc' := 106) (st' := [.int (i32 (0))]) rfl rfl rfl rfl ?_
                                  refine jx_go (tg := 114) rfl rfl ?_
                                  refine jx_ld (pc' := 116) (l' := jSto1 L383 5 (.int (i32 (0)))) (st' := []) rfl rfl ?_
                                  obtain ⟨L418, eL418⟩ : ∃ q, q = jSto1 L383 5 (.int (i32 (0))) := ⟨_, rfl⟩
                                  rw [← eL418]
                                  have gL418_0 : jGet L418 0 = some (.ref 66) := eL418 ▸ jg_ne (by decide) gL383_0 rfl
                                  have gL418_1 : jGet L418 1 = some (.int (i32 (lv))) := eL418 ▸ jg_ne (by decide) gL383_1 rfl
                                  have gL418_2 : jGet L418 2 = some (.int (i32 (vi))) := eL418 ▸ jg_ne (by decide) gL383_2 rfl
                                  have gL418_3 : jGet L418 3 = some (.int (i32 (sy))) := eL418 ▸ jg_ne (by decide) gL383_3 rfl
                                  have gL418_4 : jGet L418 4 = some (.int (i32 (((dc + sy2_351) - sy1)))) := eL418 ▸ jg_ne (by decide) gL383_4 rfl
                                  have gL418_5 : jGet L418 5 = some (.int (i32 (0))) := eL418 ▸ jg_eq
                                  refine jx_ld (pc' := 117) (l' := L418) (st' := [.ref 66]) rfl (jl_aloadn gL418_0) ?_
                                  refine jx_vr (pc' := 120) (as := []) (st := []) rfl rfl rfl rfl ⟨rfl, rfl, Nat.le_of_ble_eq_true rfl⟩ rfl rfl (c_bad (dd := d) (hd := by omega) (hW := hW389)  (fk := fk2_388) (e_fk := show G385 16 = fk2_388 from (e392))    ) (fun o V' hq => ?_)
                                  obtain ⟨r419, rfl, rfl, b420, q421⟩ := hq
                                  refine .inr ⟨_, rfl, ?_⟩
                                  rcases q421 with ⟨rfl, a422⟩ | ⟨rfl, a423⟩
                                  · have _q : True := trivial
                                    refine jx_if_ne (pc' := 123) (tg := 140) rfl rfl rfl (by decide) (by decide) (fun h424 => ?_) (fun h424 => ?_)
                                    · have _q := h424
                                      refine jx_ld (pc' := 141) (l' := L418) (st' := [.ref 66]) rfl (jl_aloadn gL418_0) ?_
                                      refine jx_ld (pc' := 142) (l' := L418) (st' := [.int (i32 (vi)), .ref 66]) rfl (jl_iloadn gL418_2) ?_
                                      refine jr_put (pc' := 145) (i := 29) (z := vi) rfl rfl (by decide) rfl rfl rfl rfl rfl rfl ?_
                                      have hW425 : Wk (uG G385 29 (vi)) A386 := Wk_g hW389 (show (0 : Int) ≤ vi by omega) (show vi ≤ (202 : Int) by omega)
                                      have hF426 := Fr_g (z := vi) (i := 29) hF394 (by decide)
                                      refine jx_ld (pc' := 147) (l' := L418) (st' := [.int (i32 (0))]) rfl (jl_iload gL418_5) ?_
                                      refine jx_rt (v := some (.int (i32 (0)))) rfl rfl rfl rfl rfl rfl ?_
                                      exact ⟨_, _, _, ln2_350, at2_348, fk2_388, nd, sy2_351, na2_352, vi, A 3 (ln2_350).toNat, rfl, rfl, hW425, hF426, hP395, hS396, hV397, by omega, ((hF390.1 9 rfl).trans (e360)), ((hF390.1 10 rfl).trans (e358)), (e392), ((hF390.1 31 rfl).trans ((hF355.1 31 rfl).trans (fx_31))), ((hF390.1 19 rfl).trans (e361)), ((hF390.1 28 rfl).trans (e362)), rfl, (congrFun ((hF390.2 3 rfl).trans ((hF355.2 3 rfl).trans (hFx.2 3 rfl))) _), by omega, by omega, by omega, by omega, by omega, by omega, by omega, by omega, by omega, by first | exact Or.inl (⟨by omega, by omega⟩)⟩
                                    · have _q := h424
                                      exact absurd h424 (by omega)
                                  · have _q : True := trivial
                                    exfalso
                                    omega
                              · have _q : True := trivial
                                exfalso
                                omega
                            · have _q := h411
                              exact absurd h411 (by omega)
                          · have _q : True := trivial
                            exfalso
                            omega
                        · have _q := h405
                          exact absurd h405 (by omega)
                    · have _q : True := trivial
                      have b427 : (0 : Int) ≤ A 3 (ln2_350).toNat ∧ A 3 (ln2_350).toNat ≤ 3000 := hW.2 3 _
                      have lt428 : ln2_350 < li → le1 < A 3 (ln2_350).toNat := fun hh => LT_nx (LT_ext (((hF355.1 3 rfl).trans (hFx.1 3 rfl))) (((hF355.2 3 rfl).trans (hFx.2 3 rfl))) (((hF355.2 4 rfl).trans (hFx.2 4 rfl))) i_LT) (show G346 3 = li from ((hF355.1 3 rfl).trans ((hFx.1 3 rfl).trans (e_li)))) (show A347 4 (ln1).toNat = le1 from (congrFun (hF355.2 4 rfl) _).trans (ex_le1)) (show A347 3 (ln2_350).toNat = A 3 (ln2_350).toNat from (congrFun ((hF355.2 3 rfl).trans (hFx.2 3 rfl)) _)) (show ln2_350 = ln1 + 1 by omega) (by omega) hh
                      refine jx_ld (pc' := 73) (l' := L345) (st' := [.int (i32 (dc))]) rfl (jl_iload gL345_4) ?_
                      refine jx_ld (pc' := 74) (l' := L345) (st' := [.ref 66, .int (i32 (dc))]) rfl (jl_aloadn gL345_0) ?_
                      refine jr_get (pc' := 77) (i := 19) (v := .int (i32 (sy2_351))) rfl rfl (by decide) (rFv_eq (by decide) (show G346 19 = sy2_351 from (e361))) rfl ?_
                      refine jx_add (pc' := 78) rfl rfl ?_
                      refine jx_ld (pc' := 80) (l' := L345) (st' := [.int (i32 (sy1)), .int (i32 ((dc + sy2_351)))]) rfl (jl_iload gL345_5) ?_
                      refine jx_sub (pc' := 81) rfl rfl ?_
                      refine jx_ld (pc' := 83) (l' := jSto1 L345 4 (.int (i32 (((dc + sy2_351) - sy1))))) (st' := []) rfl rfl ?_
                      obtain ⟨L429, eL429⟩ : ∃ q, q = jSto1 L345 4 (.int (i32 (((dc + sy2_351) - sy1)))) := ⟨_, rfl⟩
                      rw [← eL429]
                      have gL429_0 : jGet L429 0 = some (.ref 66) := eL429 ▸ jg_ne (by decide) gL345_0 rfl
                      have gL429_1 : jGet L429 1 = some (.int (i32 (lv))) := eL429 ▸ jg_ne (by decide) gL345_1 rfl
                      have gL429_2 : jGet L429 2 = some (.int (i32 (vi))) := eL429 ▸ jg_ne (by decide) gL345_2 rfl
                      have gL429_3 : jGet L429 3 = some (.int (i32 (sy))) := eL429 ▸ jg_ne (by decide) gL345_3 rfl
                      have gL429_5 : jGet L429 5 = some (.int (i32 (sy1))) := eL429 ▸ jg_ne (by decide) gL345_5 rfl
                      have gL429_4 : jGet L429 4 = some (.int (i32 (((dc + sy2_351) - sy1)))) := eL429 ▸ jg_eq
                      refine jx_ld (pc' := 84) (l' := L429) (st' := [.ref 66]) rfl (jl_aloadn gL429_0) ?_
                      refine jx_ld (pc' := 85) (l' := L429) (st' := [.int (i32 (lv)), .ref 66]) rfl (jl_iloadn gL429_1) ?_
                      have b430 : (-1 : Int) ≤ A 5 (ln2_350).toNat ∧ A 5 (ln2_350).toNat ≤ 15 := hW.2 5 _
                      refine jx_vr (pc' := 88) (as := [.int (i32 (lv))]) (st := []) rfl rfl rfl rfl ⟨rfl, rfl, Nat.le_of_ble_eq_true rfl⟩ rfl rfl (c_needLevel (dd := d) (hd := by omega) (hW := hW354) (lv := lv) (ln := ln2_350) (e_ln := show G346 9 = ln2_350 from (e360)) (li := li) (e_li := show G346 3 = li from ((hF355.1 3 rfl).trans ((hFx.1 3 rfl).trans (e_li)))) (fk := fk2_349) (e_fk := show G346 16 = fk2_349 from (e359)) (ll := A 5 (ln2_350).toNat) (e_ll := show A347 5 (ln2_350).toNat = A 5 (ln2_350).toNat from (congrFun ((hF355.2 5 rfl).trans (hFx.2 5 rfl)) _))  (h_lv := ⟨(Int.le_trans (by decide : (-2147483648 : Int) ≤ -2147483648) h_lv.1), (Int.le_trans h_lv.2 (by decide : (2147483647 : Int) ≤ 2147483647))⟩)  ) (fun o V' hq => ?_)
                      obtain ⟨G431, A432, r433, fk2_434, rfl, rfl, hW435, hF436, b437, e438, q439⟩ := hq
                      have hF440 := Fr_tr hF371 hF436 (Fr_sub (by decide)) (Fr_sub (by decide))
                      have hP441 := Pf_f hP372 hF436 (by decide)
                      have hS442 := Fx_f hS373 hF436 (by decide)
                      have hV443 := Fx_f hV374 hF436 (by decide)
                      have sf444 : wD A432 (sy) (sy1) := wD_fx (Sg_fr (sb := sy1) hF436 (by decide)) (by omega) sf375
                      have sf445 : DS A432 (vi) (vi1) (sy) (sy1) := DS_ext (hF436.2 14 rfl) sf376
                      have sf446 : wD A432 (sy1) (sy2_351) := wD_fx (Sg_fr (sb := sy2_351) hF436 (by decide)) (by omega) a381
                      have sf447 : DS A432 (vi1) (vi2_353) (sy1) (sy2_351) := DS_ext (hF436.2 14 rfl) a382
                      have bfk2_434 : (0 : Int) ≤ fk2_434 ∧ fk2_434 ≤ 6 := e438 ▸ hW435.1 16
                      refine .inr ⟨_, rfl, ?_⟩
                      rcases q439 with ⟨rfl, a448, a449, a450, a451⟩ | ⟨rfl, a452⟩
                      · have _q : True := trivial
                        have b453 : (0 : Int) ≤ A 4 (ln2_350).toNat ∧ A 4 (ln2_350).toNat ≤ 3000 := hW.2 4 _
                        have lt454 : A 3 (ln2_350).toNat < A 4 (ln2_350).toNat := LT_at (LT_ext (((hF436.1 3 rfl).trans ((hF355.1 3 rfl).trans (hFx.1 3 rfl)))) (((hF436.2 3 rfl).trans ((hF355.2 3 rfl).trans (hFx.2 3 rfl)))) (((hF436.2 4 rfl).trans ((hF355.2 4 rfl).trans (hFx.2 4 rfl)))) i_LT) (show G431 3 = li from ((hF436.1 3 rfl).trans ((hF355.1 3 rfl).trans ((hFx.1 3 rfl).trans (e_li))))) (show A432 3 (ln2_350).toNat = A 3 (ln2_350).toNat from (congrFun ((hF436.2 3 rfl).trans ((hF355.2 3 rfl).trans (hFx.2 3 rfl))) _)) (show A432 4 (ln2_350).toNat = A 4 (ln2_350).toNat from (congrFun ((hF436.2 4 rfl).trans ((hF355.2 4 rfl).trans (hFx.2 4 rfl))) _)) (by omega) (by omega)
                        refine jx_if_eq (pc' := 91) (tg := 95) rfl rfl rfl (by decide) (by decide) (fun h455 => ?_) (fun h455 => ?_)
                        · have _q := h455
                          exact absurd h455 (by omega)
                        · have _q := h455
                          refine jx_ld (pc' := 92) (l' := L429) (st' := [.ref 66]) rfl (jl_aloadn gL429_0) ?_
                          refine jx_vr (pc' := 95) (as := []) (st := []) rfl rfl rfl rfl ⟨rfl, rfl, Nat.le_of_ble_eq_true rfl⟩ rfl rfl (c_openLine (dd := d) (hd := by omega) (hW := hW435)  (ln := ln2_350) (e_ln := show G431 9 = ln2_350 from ((hF436.1 9 rfl).trans (e360))) (le := A 4 (ln2_350).toNat) (e_le := show A432 4 (ln2_350).toNat = A 4 (ln2_350).toNat from (congrFun ((hF436.2 4 rfl).trans ((hF355.2 4 rfl).trans (hFx.2 4 rfl))) _)) (lf := A 3 (ln2_350).toNat) (e_lf := show A432 3 (ln2_350).toNat = A 3 (ln2_350).toNat from (congrFun ((hF436.2 3 rfl).trans ((hF355.2 3 rfl).trans (hFx.2 3 rfl))) _))    (p_0 := by omega)) (fun o V' hq => ?_)
                          obtain ⟨G456, A457, at2_458, tk2_459, op2_460, rfl, rfl, hW461, hF462, e463, e464, e465, p466, p467, p468, p469, -⟩ := hq
                          have hF471 := Fr_tr hF440 hF462 (Fr_sub (by decide)) (Fr_sub (by decide))
                          have hP472 := Pf_f hP441 hF462 (by decide)
                          have hS473 := Fx_f hS442 hF462 (by decide)
                          have hV474 := Fx_f hV443 hF462 (by decide)
                          have sf475 : wD A457 (sy) (sy1) := wD_fx (Sg_fr (sb := sy1) hF462 (by decide)) (by omega) sf444
                          have sf476 : DS A457 (vi) (vi1) (sy) (sy1) := DS_ext (hF462.2 14 rfl) sf445
                          have sf477 : wD A457 (sy1) (sy2_351) := wD_fx (Sg_fr (sb := sy2_351) hF462 (by decide)) (by omega) sf446
                          have sf478 : DS A457 (vi1) (vi2_353) (sy1) (sy2_351) := DS_ext (hF462.2 14 rfl) sf447
                          have bat2_458 : (0 : Int) ≤ at2_458 ∧ at2_458 ≤ 3002 := e463 ▸ hW461.1 10
                          have ztk2_459 := tz_b tk2_459
                          have btk2_459 : (0 : Int) ≤ tk2_459 ∧ tk2_459 ≤ 5 := e464 ▸ hW461.1 11
                          have bop2_460 : (-2147483648 : Int) ≤ op2_460 ∧ op2_460 ≤ 2147483647 := e465 ▸ hW461.1 15
                          refine .inl ⟨rfl, ?_⟩
                          refine jx_go (tg := 27) rfl rfl ?_
                          have z479 := tz_f (tk2_459)
                          exact ih27 _ (by omega) L429 G456 A457 (((dc + sy2_351) - sy1)) (ln2_350) (at2_458) (tk2_459) (fk2_434) (op2_460) (sy2_351) (na2_352) (vi2_353) (A 4 (ln2_350).toNat) rfl gL429_0 gL429_1 gL429_2 gL429_3 gL429_4 hW461 hF471 hP472 hS473 hV474 (((hF462.1 9 rfl).trans ((hF436.1 9 rfl).trans (e360)))) ((e463)) ((e464)) (((hF462.1 16 rfl).trans (e438))) ((e465)) (((hF462.1 19 rfl).trans ((hF436.1 19 rfl).trans (e361)))) (((hF462.1 28 rfl).trans ((hF436.1 28 rfl).trans (e362)))) (((hF462.1 29 rfl).trans ((hF436.1 29 rfl).trans (e363)))) ((congrFun ((hF462.2 4 rfl).trans ((hF436.2 4 rfl).trans ((hF355.2 4 rfl).trans (hFx.2 4 rfl)))) _)) (((hF462.1 31 rfl).trans ((hF436.1 31 rfl).trans ((hF355.1 31 rfl).trans (fx_31))))) (by omega) (by omega) (by omega) (by omega) (by omega) (by omega) (by omega) (by omega) (by omega) (by omega) (by omega) (by omega) (by omega) ((wD_tr sf475 sf477)) ((DS_app sf476 sf478 (by omega) (by omega)))
                      · have _q : True := trivial
                        refine jx_if_eq (pc' := 91) (tg := 95) rfl rfl rfl (by decide) (by decide) (fun h480 => ?_) (fun h480 => ?_)
                        · have _q := h480
                          refine jx_go (tg := 27) rfl rfl ?_
                          refine jx_ld (pc' := 28) (l' := L429) (st' := [.ref 66]) rfl (jl_aloadn gL429_0) ?_
                          refine jx_vr (pc' := 31) (as := []) (st := []) rfl rfl rfl rfl ⟨rfl, rfl, Nat.le_of_ble_eq_true rfl⟩ rfl rfl (c_bad (dd := d) (hd := by omega) (hW := hW435)  (fk := fk2_434) (e_fk := show G431 16 = fk2_434 from (e438))    ) (fun o V' hq => ?_)
                          obtain ⟨r481, rfl, rfl, b482, q483⟩ := hq
                          refine .inr ⟨_, rfl, ?_⟩
                          rcases q483 with ⟨rfl, a484⟩ | ⟨rfl, a485⟩
                          · have _q : True := trivial
                            refine jx_if_ne (pc' := 34) (tg := 98) rfl rfl rfl (by decide) (by decide) (fun h486 => ?_) (fun h486 => ?_)
                            · have _q := h486
                              refine jx_ld (pc' := 99) (l' := L429) (st' := [.ref 66]) rfl (jl_aloadn gL429_0) ?_
                              refine jx_vr (pc' := 102) (as := []) (st := []) rfl rfl rfl rfl ⟨rfl, rfl, Nat.le_of_ble_eq_true rfl⟩ rfl rfl (c_bad (dd := d) (hd := by omega) (hW := hW435)  (fk := fk2_434) (e_fk := show G431 16 = fk2_434 from (e438))    ) (fun o V' hq => ?_)
                              obtain ⟨r487, rfl, rfl, b488, q489⟩ := hq
                              refine .inr ⟨_, rfl, ?_⟩
                              rcases q489 with ⟨rfl, a490⟩ | ⟨rfl, a491⟩
                              · have _q : True := trivial
                                refine jx_if_eq (pc' := 105) (tg := 109) rfl rfl rfl (by decide) (by decide) (fun h492 => ?_) (fun h492 => ?_)
                                · have _q := h492
                                  exact absurd h492 (by omega)
                                · have _q := h492
                                  refine jx_ar (pc' := 106) (st' := [.int (i32 (0))]) rfl rfl rfl rfl ?_
                                  refine jx_go (tg := 114) rfl rfl ?_
                                  refine jx_ld (pc' := 116) (l' := jSto1 L429 5 (.int (i32 (0)))) (st' := []) rfl rfl ?_
                                  obtain ⟨L493, eL493⟩ : ∃ q, q = jSto1 L429 5 (.int (i32 (0))) := ⟨_, rfl⟩
                                  rw [← eL493]
                                  have gL493_0 : jGet L493 0 = some (.ref 66) := eL493 ▸ jg_ne (by decide) gL429_0 rfl
                                  have gL493_1 : jGet L493 1 = some (.int (i32 (lv))) := eL493 ▸ jg_ne (by decide) gL429_1 rfl
                                  have gL493_2 : jGet L493 2 = some (.int (i32 (vi))) := eL493 ▸ jg_ne (by decide) gL429_2 rfl
                                  have gL493_3 : jGet L493 3 = some (.int (i32 (sy))) := eL493 ▸ jg_ne (by decide) gL429_3 rfl
                                  have gL493_4 : jGet L493 4 = some (.int (i32 (((dc + sy2_351) - sy1)))) := eL493 ▸ jg_ne (by decide) gL429_4 rfl
                                  have gL493_5 : jGet L493 5 = some (.int (i32 (0))) := eL493 ▸ jg_eq
                                  refine jx_ld (pc' := 117) (l' := L493) (st' := [.ref 66]) rfl (jl_aloadn gL493_0) ?_
                                  refine jx_vr (pc' := 120) (as := []) (st := []) rfl rfl rfl rfl ⟨rfl, rfl, Nat.le_of_ble_eq_true rfl⟩ rfl rfl (c_bad (dd := d) (hd := by omega) (hW := hW435)  (fk := fk2_434) (e_fk := show G431 16 = fk2_434 from (e438))    ) (fun o V' hq => ?_)
                                  obtain ⟨r494, rfl, rfl, b495, q496⟩ := hq
                                  refine .inr ⟨_, rfl, ?_⟩
                                  rcases q496 with ⟨rfl, a497⟩ | ⟨rfl, a498⟩
                                  · have _q : True := trivial
                                    refine jx_if_ne (pc' := 123) (tg := 140) rfl rfl rfl (by decide) (by decide) (fun h499 => ?_) (fun h499 => ?_)
                                    · have _q := h499
                                      refine jx_ld (pc' := 141) (l' := L493) (st' := [.ref 66]) rfl (jl_aloadn gL493_0) ?_
                                      refine jx_ld (pc' := 142) (l' := L493) (st' := [.int (i32 (vi)), .ref 66]) rfl (jl_iloadn gL493_2) ?_
                                      refine jr_put (pc' := 145) (i := 29) (z := vi) rfl rfl (by decide) rfl rfl rfl rfl rfl rfl ?_
                                      have hW500 : Wk (uG G431 29 (vi)) A432 := Wk_g hW435 (show (0 : Int) ≤ vi by omega) (show vi ≤ (202 : Int) by omega)
                                      have hF501 := Fr_g (z := vi) (i := 29) hF440 (by decide)
                                      refine jx_ld (pc' := 147) (l' := L493) (st' := [.int (i32 (0))]) rfl (jl_iload gL493_5) ?_
                                      refine jx_rt (v := some (.int (i32 (0)))) rfl rfl rfl rfl rfl rfl ?_
                                      exact ⟨_, _, _, ln2_350, at2_348, fk2_434, nd, sy2_351, na2_352, vi, A 3 (ln2_350).toNat, rfl, rfl, hW500, hF501, hP441, hS442, hV443, by omega, ((hF436.1 9 rfl).trans (e360)), ((hF436.1 10 rfl).trans (e358)), (e438), ((hF436.1 31 rfl).trans ((hF355.1 31 rfl).trans (fx_31))), ((hF436.1 19 rfl).trans (e361)), ((hF436.1 28 rfl).trans (e362)), rfl, (congrFun ((hF436.2 3 rfl).trans ((hF355.2 3 rfl).trans (hFx.2 3 rfl))) _), by omega, by omega, by omega, by omega, by omega, by omega, by omega, by omega, by omega, by first | exact Or.inl (⟨by omega, by omega⟩)⟩
                                    · have _q := h499
                                      exact absurd h499 (by omega)
                                  · have _q : True := trivial
                                    exfalso
                                    omega
                              · have _q : True := trivial
                                exfalso
                                omega
                            · have _q := h486
                              exact absurd h486 (by omega)
                          · have _q : True := trivial
                            exfalso
                            omega
                        · have _q := h480
                          exact absurd h480 (by omega)
                · have _q : True := trivial
                  refine jx_if_eq (pc' := 61) (tg := 98) rfl rfl rfl (by decide) (by decide) (fun h502 => ?_) (fun h502 => ?_)
                  · have _q := h502
                    refine jx_ld (pc' := 99) (l' := L) (st' := [.ref 66]) rfl (jl_aloadn gL_0) ?_
                    refine jx_vr (pc' := 102) (as := []) (st := []) rfl rfl rfl rfl ⟨rfl, rfl, Nat.le_of_ble_eq_true rfl⟩ rfl rfl (c_bad (dd := d) (hd := by omega) (hW := hWx)  (fk := fk1) (e_fk := show Gx 16 = fk1 from (ex_fk1))    ) (fun o V' hq => ?_)
                    obtain ⟨r503, rfl, rfl, b504, q505⟩ := hq
                    refine .inr ⟨_, rfl, ?_⟩
                    rcases q505 with ⟨rfl, a506⟩ | ⟨rfl, a507⟩
                    · have _q : True := trivial
                      exfalso
                      omega
                    · have _q : True := trivial
                      refine jx_if_eq (pc' := 105) (tg := 109) rfl rfl rfl (by decide) (by decide) (fun h508 => ?_) (fun h508 => ?_)
                      · have _q := h508
                        refine jx_ld (pc' := 110) (l' := L) (st' := [.ref 66]) rfl (jl_aloadn gL_0) ?_
                        refine jx_ld (pc' := 111) (l' := L) (st' := [.int (i32 (lv)), .ref 66]) rfl (jl_iloadn gL_1) ?_
                        refine jx_vr (pc' := 114) (as := [.int (i32 (lv))]) (st := []) rfl rfl rfl rfl ⟨rfl, rfl, Nat.le_of_ble_eq_true rfl⟩ rfl rfl (c_readStatement (dd := d) (hP := hP) (hd := by omega) (hW := hWx) (lv := lv) (ln := ln1) (e_ln := show Gx 9 = ln1 from (ex_ln1)) (li := li) (e_li := show Gx 3 = li from ((hFx.1 3 rfl).trans (e_li))) (at0 := at1) (e_at0 := show Gx 10 = at1 from (ex_at1)) (fk := fk1) (e_fk := show Gx 16 = fk1 from (ex_fk1)) (nd := nd) (e_nd := show Gx 31 = nd from (fx_31)) (sy := sy1) (e_sy := show Gx 19 = sy1 from (ex_sy1)) (na := na1) (e_na := show Gx 28 = na1 from (ex_na1)) (vi := vi1) (e_vi := show Gx 29 = vi1 from (ex_vi1)) (le := le1) (e_le := show Ax 4 (ln1).toNat = le1 from (ex_le1)) (op0 := op1) (e_op0 := show Gx 15 = op1 from (ex_op1)) (tk0 := tk1) (e_tk0 := show Gx 11 = tk1 from (ex_tk1)) (i_LT := (LT_ext ((hFx.1 3 rfl)) ((hFx.2 3 rfl)) ((hFx.2 4 rfl)) i_LT)) (i_SV := (SV_dec (s0 := sy) (s1 := sy1) i_SV e_vi (show Gx 29 = vi1 from (ex_vi1)) (by omega) hVx iv_13 (by omega))) (i_PQ := (PQ_dec (s0 := sy) (s1 := sy1) i_PQ hSx (by omega) (by omega) (hFx.2 29 rfl) (hFx.2 30 rfl) iv_12 hvb)) (hvb := (VB_d (s0 := sy) (s1 := sy1) hvb (by omega))) (h_lv := ⟨(Int.le_trans (by decide : (-2147483648 : Int) ≤ -2147483648) h_lv.1), (Int.le_trans h_lv.2 (by decide : (2147483647 : Int) ≤ 2147483647))⟩)  (p_0 := by omega) (p_1 := by omega) (p_2 := by omega) (p_3 := by omega) (p_4 := by omega) (p_5 := by omega) (p_6 := by omega) (p_7 := by omega) (p_8 := by omega) (p_9 := by omega)) (fun o V' hq => ?_)
                        obtain ⟨G509, A510, r511, ln2_512, at2_513, fk2_514, nd2_515, sy2_516, na2_517, vi2_518, lf2_519, rfl, rfl, hW520, hF521, hQ522, hQ523, hQ524, b525, e526, e527, e528, e529, e530, e531, e532, e533, p534, p535, p536, p537, p538, p539, p540, p541, p542, p543, q544⟩ := hq
                        have hF545 := Fr_tr hFx hF521 (Fr_sub (by decide)) (Fr_sub (by decide))
                        have hP546 := Pf_tr hPx hQ522 (by omega)
                        have hS547 := Fx_tr hSx hQ523 (by omega)
                        have hV548 := Fx_tr hVx hQ524 (by omega)
                        have sf549 : wD A510 (sy) (sy1) := wD_fx hQ523 (by omega) iv_12
                        have sf550 : DS A510 (vi) (vi1) (sy) (sy1) := DS_fx hQ524 (by omega) iv_13
                        have bln2_512 : (0 : Int) ≤ ln2_512 ∧ ln2_512 ≤ 3000 := e526 ▸ hW520.1 9
                        have bat2_513 : (0 : Int) ≤ at2_513 ∧ at2_513 ≤ 3002 := e527 ▸ hW520.1 10
                        have bfk2_514 : (0 : Int) ≤ fk2_514 ∧ fk2_514 ≤ 6 := e528 ▸ hW520.1 16
                        have bnd2_515 : (0 : Int) ≤ nd2_515 ∧ nd2_515 ≤ 6999 := e529 ▸ hW520.1 31
                        have bsy2_516 : (0 : Int) ≤ sy2_516 ∧ sy2_516 ≤ 202 := e530 ▸ hW520.1 19
                        have bna2_517 : (0 : Int) ≤ na2_517 ∧ na2_517 ≤ 200 := e531 ▸ hW520.1 28
                        have bvi2_518 : (0 : Int) ≤ vi2_518 ∧ vi2_518 ≤ 202 := e532 ▸ hW520.1 29
                        have blf2_519 : (0 : Int) ≤ lf2_519 ∧ lf2_519 ≤ 3000 := e533 ▸ hW520.2 3 _
                        refine .inr ⟨_, rfl, ?_⟩
                        rcases q544 with ⟨a551, a552⟩ | ⟨a553, a554, a555, a556, a557, a558, a559, a560, a561⟩
                        · have _q : True := trivial
                          refine jx_ld (pc' := 116) (l' := jSto1 L 5 (.int (i32 (r511)))) (st' := []) rfl rfl ?_
                          obtain ⟨L562, eL562⟩ : ∃ q, q = jSto1 L 5 (.int (i32 (r511))) := ⟨_, rfl⟩
                          rw [← eL562]
                          have gL562_0 : jGet L562 0 = some (.ref 66) := eL562 ▸ jg_ne (by decide) gL_0 rfl
                          have gL562_1 : jGet L562 1 = some (.int (i32 (lv))) := eL562 ▸ jg_ne (by decide) gL_1 rfl
                          have gL562_2 : jGet L562 2 = some (.int (i32 (vi))) := eL562 ▸ jg_ne (by decide) gL_2 rfl
                          have gL562_3 : jGet L562 3 = some (.int (i32 (sy))) := eL562 ▸ jg_ne (by decide) gL_3 rfl
                          have gL562_4 : jGet L562 4 = some (.int (i32 (dc))) := eL562 ▸ jg_ne (by decide) gL_4 rfl
                          have gL562_5 : jGet L562 5 = some (.int (i32 (r511))) := eL562 ▸ jg_eq
                          refine jx_ld (pc' := 117) (l' := L562) (st' := [.ref 66]) rfl (jl_aloadn gL562_0) ?_
                          refine jx_vr (pc' := 120) (as := []) (st := []) rfl rfl rfl rfl ⟨rfl, rfl, Nat.le_of_ble_eq_true rfl⟩ rfl rfl (c_bad (dd := d) (hd := by omega) (hW := hW520)  (fk := fk2_514) (e_fk := show G509 16 = fk2_514 from (e528))    ) (fun o V' hq => ?_)
                          obtain ⟨r563, rfl, rfl, b564, q565⟩ := hq
                          refine .inr ⟨_, rfl, ?_⟩
                          rcases q565 with ⟨rfl, a566⟩ | ⟨rfl, a567⟩
                          · have _q : True := trivial
                            refine jx_if_ne (pc' := 123) (tg := 140) rfl rfl rfl (by decide) (by decide) (fun h568 => ?_) (fun h568 => ?_)
                            · have _q := h568
                              refine jx_ld (pc' := 141) (l' := L562) (st' := [.ref 66]) rfl (jl_aloadn gL562_0) ?_
                              refine jx_ld (pc' := 142) (l' := L562) (st' := [.int (i32 (vi)), .ref 66]) rfl (jl_iloadn gL562_2) ?_
                              refine jr_put (pc' := 145) (i := 29) (z := vi) rfl rfl (by decide) rfl rfl rfl rfl rfl rfl ?_
                              have hW569 : Wk (uG G509 29 (vi)) A510 := Wk_g hW520 (show (0 : Int) ≤ vi by omega) (show vi ≤ (202 : Int) by omega)
                              have hF570 := Fr_g (z := vi) (i := 29) hF545 (by decide)
                              refine jx_ld (pc' := 147) (l' := L562) (st' := [.int (i32 (r511))]) rfl (jl_iload gL562_5) ?_
                              refine jx_rt (v := some (.int (i32 (r511)))) rfl rfl rfl rfl rfl rfl ?_
                              exact ⟨_, _, _, ln2_512, at2_513, fk2_514, nd2_515, sy2_516, na2_517, vi, lf2_519, rfl, rfl, hW569, hF570, hP546, hS547, hV548, by omega, (e526), (e527), (e528), (e529), (e530), (e531), rfl, (e533), by omega, by omega, by omega, by omega, by omega, by omega, by omega, by omega, by omega, by first | exact Or.inl (⟨by omega, by omega⟩)⟩
                            · have _q := h568
                              exact absurd h568 (by omega)
                          · have _q : True := trivial
                            exfalso
                            omega
                        · have _q : True := trivial
                          refine jx_ld (pc' := 116) (l' := jSto1 L 5 (.int (i32 (r511)))) (st' := []) rfl rfl ?_
                          obtain ⟨L571, eL571⟩ : ∃ q, q = jSto1 L 5 (.int (i32 (r511))) := ⟨_, rfl⟩
                          rw [← eL571]
                          have gL571_0 : jGet L571 0 = some (.ref 66) := eL571 ▸ jg_ne (by decide) gL_0 rfl
                          have gL571_1 : jGet L571 1 = some (.int (i32 (lv))) := eL571 ▸ jg_ne (by decide) gL_1 rfl
                          have gL571_2 : jGet L571 2 = some (.int (i32 (vi))) := eL571 ▸ jg_ne (by decide) gL_2 rfl
                          have gL571_3 : jGet L571 3 = some (.int (i32 (sy))) := eL571 ▸ jg_ne (by decide) gL_3 rfl
                          have gL571_4 : jGet L571 4 = some (.int (i32 (dc))) := eL571 ▸ jg_ne (by decide) gL_4 rfl
                          have gL571_5 : jGet L571 5 = some (.int (i32 (r511))) := eL571 ▸ jg_eq
                          refine jx_ld (pc' := 117) (l' := L571) (st' := [.ref 66]) rfl (jl_aloadn gL571_0) ?_
                          refine jx_vr (pc' := 120) (as := []) (st := []) rfl rfl rfl rfl ⟨rfl, rfl, Nat.le_of_ble_eq_true rfl⟩ rfl rfl (c_bad (dd := d) (hd := by omega) (hW := hW520)  (fk := fk2_514) (e_fk := show G509 16 = fk2_514 from (e528))    ) (fun o V' hq => ?_)
                          obtain ⟨r572, rfl, rfl, b573, q574⟩ := hq
                          refine .inr ⟨_, rfl, ?_⟩
                          rcases q574 with ⟨rfl, a575⟩ | ⟨rfl, a576⟩
                          · have _q : True := trivial
                            exfalso
                            omega
                          · have _q : True := trivial
                            refine jx_if_ne (pc' := 123) (tg := 140) rfl rfl rfl (by decide) (by decide) (fun h577 => ?_) (fun h577 => ?_)
                            · have _q := h577
                              exact absurd h577 (by omega)
                            · have _q := h577
                              refine jx_ld (pc' := 124) (l' := L571) (st' := [.ref 66]) rfl (jl_aloadn gL571_0) ?_
                              refine jr_get (pc' := 127) (i := 40) (v := .ref 90) rfl rfl (by decide) rfl rfl ?_
                              refine jx_ld (pc' := 129) (l' := L571) (st' := [.int (i32 (r511)), .ref 90]) rfl (jl_iload gL571_5) ?_
                              refine jx_ld (pc' := 130) (l' := L571) (st' := [.int (i32 (sy)), .int (i32 (r511)), .ref 90]) rfl (jl_iloadn gL571_3) ?_
                              refine jr_st (pc' := 131) (i := 23) (m := 7000) (z := r511) (y := sy) rfl (by decide) rfl (by decide) (by omega) (by omega) rfl ?_
                              have hW579 : Wk G509 (uA A510 23 (r511).toNat (sy)) := Wk_a hW520 (show (-2147483648 : Int) ≤ sy by omega) (show sy ≤ (2147483647 : Int) by omega)
                              have hF580 := Fr_a (z := sy) (k := 23) (n := (r511).toNat) hF545 (by decide)
                              obtain ⟨A578, eA578⟩ : ∃ q, q = uA A510 23 (r511).toNat (sy) := ⟨_, rfl⟩
                              rw [← eA578]
                              rw [← eA578] at hW579 hF580
                              have q581 : A578 23 (r511).toNat = sy := by rw [eA578]; exact uA_eq
                              have hP582 : Pf nd A A578 := eA578 ▸ Pf_a hP546 (z := r511) (by omega) (by omega)
                              have hS583 : Fx sr (sy) A A578 := eA578 ▸ Fx_n hS547 rfl
                              have hV584 : Fx [14] (vi) A A578 := eA578 ▸ Fx_n hV548 rfl
                              have sf585 : wD A578 (sy) (sy1) := wD_fx (Sg_ne (sb := sy1) eA578 rfl) (by omega) sf549
                              have sf586 : DS A578 (vi) (vi1) (sy) (sy1) := DS_ext ((congrFun eA578 14).trans (uA_ne (by decide))) sf550
                              have sf587 : NX A578 (r511) := NX_r eA578 (by decide) a561
                              refine jx_ld (pc' := 132) (l' := L571) (st' := [.ref 66]) rfl (jl_aloadn gL571_0) ?_
                              refine jr_get (pc' := 135) (i := 41) (v := .ref 91) rfl rfl (by decide) rfl rfl ?_
                              refine jx_ld (pc' := 137) (l' := L571) (st' := [.int (i32 (r511)), .ref 91]) rfl (jl_iload gL571_5) ?_
                              refine jx_ld (pc' := 139) (l' := L571) (st' := [.int (i32 (dc)), .int (i32 (r511)), .ref 91]) rfl (jl_iload gL571_4) ?_
                              refine jr_st (pc' := 140) (i := 24) (m := 7000) (z := r511) (y := dc) rfl (by decide) rfl (by decide) (by omega) (by omega) rfl ?_
                              have hW589 : Wk G509 (uA A578 24 (r511).toNat (dc)) := Wk_a hW579 (show (-2147483648 : Int) ≤ dc by omega) (show dc ≤ (2147483647 : Int) by omega)
                              have hF590 := Fr_a (z := dc) (k := 24) (n := (r511).toNat) hF580 (by decide)
                              obtain ⟨A588, eA588⟩ : ∃ q, q = uA A578 24 (r511).toNat (dc) := ⟨_, rfl⟩
                              rw [← eA588]
                              rw [← eA588] at hW589 hF590
                              have q591 : A588 24 (r511).toNat = dc := by rw [eA588]; exact uA_eq
                              have hP592 : Pf nd A A588 := eA588 ▸ Pf_a hP582 (z := r511) (by omega) (by omega)
                              have hS593 : Fx sr (sy) A A588 := eA588 ▸ Fx_n hS583 rfl
                              have hV594 : Fx [14] (vi) A A588 := eA588 ▸ Fx_n hV584 rfl
                              have sf595 : wD A588 (sy) (sy1) := wD_fx (Sg_ne (sb := sy1) eA588 rfl) (by omega) sf585
                              have sf596 : DS A588 (vi) (vi1) (sy) (sy1) := DS_ext ((congrFun eA588 14).trans (uA_ne (by decide))) sf586
                              have sf597 : wP A588 (sy2_516) pb (k + 1) (Vs) (r511) (nd) (nd2_515) (sy) (sy2_516) := wP_mk eA578 eA588 (by omega) (by omega) (by omega) (by omega) (by omega) (by omega) (by omega) (by omega) sf549 a560
                              have sf598 : NX A588 (r511) := NX_r eA588 (by decide) sf587
                              refine jx_ld (pc' := 141) (l' := L571) (st' := [.ref 66]) rfl (jl_aloadn gL571_0) ?_
                              refine jx_ld (pc' := 142) (l' := L571) (st' := [.int (i32 (vi)), .ref 66]) rfl (jl_iloadn gL571_2) ?_
                              refine jr_put (pc' := 145) (i := 29) (z := vi) rfl rfl (by decide) rfl rfl rfl rfl rfl rfl ?_
                              have hW599 : Wk (uG G509 29 (vi)) A588 := Wk_g hW589 (show (0 : Int) ≤ vi by omega) (show vi ≤ (202 : Int) by omega)
                              have hF600 := Fr_g (z := vi) (i := 29) hF590 (by decide)
                              refine jx_ld (pc' := 147) (l' := L571) (st' := [.int (i32 (r511))]) rfl (jl_iload gL571_5) ?_
                              refine jx_rt (v := some (.int (i32 (r511)))) rfl rfl rfl rfl rfl rfl ?_
                              exact ⟨_, _, _, ln2_512, at2_513, fk2_514, nd2_515, sy2_516, na2_517, vi, lf2_519, rfl, rfl, hW599, hF600, hP592, hS593, hV594, by omega, (e526), (e527), (e528), (e529), (e530), (e531), rfl, (congrFun (((congrFun eA588 3).trans (uA_ne (by decide))).trans ((congrFun eA578 3).trans (uA_ne (by decide)))) _).trans (e533), by omega, by omega, by omega, by omega, by omega, by omega, by omega, by omega, by omega, by first | exact Or.inr ((⟨by omega, by omega, by omega, by omega, by omega, by omega, sf597, sf598⟩))⟩
                      · have _q := h508
                        exact absurd h508 (by omega)
                  · have _q := h502
                    exact absurd h502 (by omega)
set_option maxRecDepth 20000 in
set_option maxHeartbeats 4000000 in
theorem c_readProcess_s {X : jX} {k : Nat} (hP : RP X k) {dd : Nat} {Vs : Nat → Prop} {sb pb : Int} (hvb : VB Vs sb) {c0 c1 : jC} {G : Nat → Int} {A : Nat → Nat → Int} {T : jH} {lv : Int} {at0 : Int} {ln li fk nd sy na vi lf ac : Int} (hd : 8 * (k + 1) + 80 ≤ dd) (hW : Wk G A) (e_ln : G 9 = ln) (e_li : G 3 = li) (e_fk : G 16 = fk) (e_nd : G 31 = nd) (e_sy : G 19 = sy) (e_na : G 28 = na) (e_vi : G 29 = vi) (e_lf : A 3 (ln).toNat = lf) (e_ac : G 10 = ac) (i_LT : LT G A) (i_SV : SV Vs sb G A) (i_PQ : PQ Vs sb pb G A) (h_lv : (-2147483648 : Int) ≤ lv ∧ lv ≤ 2147483647) (p_0 : 0 ≤ lv ∧ lv ≤ 40) (p_1 : 18 - lv ≤ ((k + 1 : Nat) : Int)) (p_2 : fk = 0) (p_3 : ln ≤ li) (p_4 : at0 < lf ∨ li ≤ ln) (p_5 : nd ≤ 2 * at0 + 32) (p_6 : sy ≤ na + 2) (p_7 : vi ≤ sy) (p_8 : at0 ≤ ac) (p_9 : -1 ≤ at0) (p_10 : sb ≤ sy) : wk X dd 292 [.ref 66, .int (i32 lv)] (rV c0 c1 G A T) (fun o V' => ∃ (G' : Nat → Int) (A' : Nat → Nat → Int) (r : Int) (ln2 : Int) (at2 : Int) (fk2 : Int) (nd2 : Int) (sy2 : Int) (na2 : Int) (vi2 : Int) (lf2 : Int), V' = rV c0 c1 G' A' T ∧ o = .inl (some (.int (i32 r))) ∧ Wk G' A' ∧ Fr [9, 10, 11, 12, 13, 14, 15, 16, 17, 18, 19, 28, 29, 31] [6, 7, 8, 9, 10, 11, 12, 14, 15, 16, 17, 18, 19, 20, 21, 22, 23, 24, 28] G A G' A' ∧ Pf nd A A' ∧ Fx sr (sy) A A' ∧ Fx [14] (vi) A A' ∧ ((-2147483648 : Int) ≤ r ∧ r ≤ 2147483647) ∧ G' 9 = ln2 ∧ G' 10 = at2 ∧ G' 16 = fk2 ∧ G' 31 = nd2 ∧ G' 19 = sy2 ∧ G' 28 = na2 ∧ G' 29 = vi2 ∧ A' 3 (ln2).toNat = lf2 ∧ (at0 ≤ at2) ∧ (nd ≤ nd2) ∧ (sy ≤ sy2) ∧ (sy2 ≤ na2 + 2) ∧ (vi2 = vi) ∧ (0 ≤ r) ∧ (r ≤ 6999) ∧ (ln ≤ ln2) ∧ (ln2 ≤ li) ∧ (((1 ≤ fk2) ∧ (nd2 - nd ≤ 2 * at2 - 2 * at0 + 12)) ∨ ((fk2 = 0) ∧ (ln < ln2) ∧ (nd2 - nd ≤ 2 * at2 - 2 * at0) ∧ (at2 < lf2 ∨ li ≤ ln2) ∧ (nd ≤ r) ∧ (r < nd2) ∧ (wP A' (sy2) pb (k + 1) (Vs) (r) (nd) (nd2) (sy) (sy2)) ∧ (NX A' (r))))) := by
  obtain ⟨d, rfl⟩ : ∃ d, dd = d + 1 := ⟨dd - 1, by omega⟩
  refine wk_of (e := jm292) rfl (Nat.le_of_ble_eq_true rfl) ?_
  show wj X d jm292 (0, [(0, .ref 66), (1, .int (i32 (lv)))], [], rV c0 c1 G A T) _
  have hF0 : Fr [9, 10, 11, 12, 13, 14, 15, 16, 17, 18, 19, 28, 29, 31] [6, 7, 8, 9, 10, 11, 12, 14, 15, 16, 17, 18, 19, 20, 21, 22, 23, 24, 28] G A G A := Fr_rf
  have hP0 : Pf nd A A := Pf_rf
  have hS0 : Fx sr (sy) A A := Fx_rf
  have hV0 : Fx [14] (vi) A A := Fx_rf
  have b_ln : (0 : Int) ≤ ln ∧ ln ≤ 3000 := e_ln ▸ hW.1 9
  have b_li : (0 : Int) ≤ li ∧ li ≤ 3000 := e_li ▸ hW.1 3
  have b_fk : (0 : Int) ≤ fk ∧ fk ≤ 6 := e_fk ▸ hW.1 16
  have b_nd : (0 : Int) ≤ nd ∧ nd ≤ 6999 := e_nd ▸ hW.1 31
  have b_sy : (0 : Int) ≤ sy ∧ sy ≤ 202 := e_sy ▸ hW.1 19
  have b_na : (0 : Int) ≤ na ∧ na ≤ 200 := e_na ▸ hW.1 28
  have b_vi : (0 : Int) ≤ vi ∧ vi ≤ 202 := e_vi ▸ hW.1 29
  have b_lf : (0 : Int) ≤ lf ∧ lf ≤ 3000 := e_lf ▸ hW.2 3 _
  have b_ac : (0 : Int) ≤ ac ∧ ac ≤ 3002 := e_ac ▸ hW.1 10
  refine jx_ld (pc' := 1) (l' := [(0, .ref 66), (1, .int (i32 (lv)))]) (st' := [.ref 66]) rfl (jl_aloadn rfl) ?_
  refine jx_ld (pc' := 2) (l' := [(0, .ref 66), (1, .int (i32 (lv)))]) (st' := [.int (i32 (lv)), .ref 66]) rfl (jl_iloadn rfl) ?_
  have b601 : (-1 : Int) ≤ A 5 (ln).toNat ∧ A 5 (ln).toNat ≤ 15 := hW.2 5 _
  refine jx_vr (pc' := 5) (as := [.int (i32 (lv))]) (st := []) rfl rfl rfl rfl ⟨rfl, rfl, Nat.le_of_ble_eq_true rfl⟩ rfl rfl (c_needLevel (dd := d) (hd := by omega) (hW := hW) (lv := lv) (ln := ln) (e_ln := show G 9 = ln from (e_ln)) (li := li) (e_li := show G 3 = li from (e_li)) (fk := fk) (e_fk := show G 16 = fk from (e_fk)) (ll := A 5 (ln).toNat) (e_ll := show A 5 (ln).toNat = A 5 (ln).toNat from rfl)  (h_lv := ⟨(Int.le_trans (by decide : (-2147483648 : Int) ≤ -2147483648) h_lv.1), (Int.le_trans h_lv.2 (by decide : (2147483647 : Int) ≤ 2147483647))⟩)  ) (fun o V' hq => ?_)
  obtain ⟨G602, A603, r604, fk2_605, rfl, rfl, hW606, hF607, b608, e609, q610⟩ := hq
  have hF611 := Fr_tr hF0 hF607 (Fr_sub (by decide)) (Fr_sub (by decide))
  have hP612 := Pf_f hP0 hF607 (by decide)
  have hS613 := Fx_f hS0 hF607 (by decide)
  have hV614 := Fx_f hV0 hF607 (by decide)
  have bfk2_605 : (0 : Int) ≤ fk2_605 ∧ fk2_605 ≤ 6 := e609 ▸ hW606.1 16
  refine .inr ⟨_, rfl, ?_⟩
  rcases q610 with ⟨rfl, a615, a616, a617, a618⟩ | ⟨rfl, a619⟩
  · have _q : True := trivial
    have b620 : (0 : Int) ≤ A 4 (ln).toNat ∧ A 4 (ln).toNat ≤ 3000 := hW.2 4 _
    have lt621 : lf < A 4 (ln).toNat := LT_at (LT_ext ((hF607.1 3 rfl)) ((hF607.2 3 rfl)) ((hF607.2 4 rfl)) i_LT) (show G602 3 = li from ((hF607.1 3 rfl).trans (e_li))) (show A603 3 (ln).toNat = lf from (congrFun (hF607.2 3 rfl) _).trans (e_lf)) (show A603 4 (ln).toNat = A 4 (ln).toNat from (congrFun (hF607.2 4 rfl) _)) (by omega) (by omega)
    refine jx_if_ne (pc' := 8) (tg := 10) rfl rfl rfl (by decide) (by decide) (fun h622 => ?_) (fun h622 => ?_)
    · have _q := h622
      refine jx_ld (pc' := 11) (l' := [(0, .ref 66), (1, .int (i32 (lv)))]) (st' := [.ref 66]) rfl (jl_aloadn rfl) ?_
      refine jr_get (pc' := 14) (i := 29) (v := .int (i32 (vi))) rfl rfl (by decide) (rFv_eq (by decide) (show G602 29 = vi from ((hF607.1 29 rfl).trans (e_vi)))) rfl ?_
      refine jx_ld (pc' := 15) (l' := jSto1 [(0, .ref 66), (1, .int (i32 (lv)))] 2 (.int (i32 (vi)))) (st' := []) rfl rfl ?_
      obtain ⟨L623, eL623⟩ : ∃ q, q = jSto1 [(0, .ref 66), (1, .int (i32 (lv)))] 2 (.int (i32 (vi))) := ⟨_, rfl⟩
      rw [← eL623]
      have gL623_0 : jGet L623 0 = some (.ref 66) := eL623 ▸ jg_ne (by decide) (rfl : jGet [(0, .ref 66), (1, .int (i32 (lv)))] 0 = some (.ref 66)) rfl
      have gL623_1 : jGet L623 1 = some (.int (i32 (lv))) := eL623 ▸ jg_ne (by decide) (rfl : jGet [(0, .ref 66), (1, .int (i32 (lv)))] 1 = some (.int (i32 (lv)))) rfl
      have gL623_2 : jGet L623 2 = some (.int (i32 (vi))) := eL623 ▸ jg_eq
      refine jx_ld (pc' := 16) (l' := L623) (st' := [.ref 66]) rfl (jl_aloadn gL623_0) ?_
      refine jr_get (pc' := 19) (i := 19) (v := .int (i32 (sy))) rfl rfl (by decide) (rFv_eq (by decide) (show G602 19 = sy from ((hF607.1 19 rfl).trans (e_sy)))) rfl ?_
      refine jx_ld (pc' := 20) (l' := jSto1 L623 3 (.int (i32 (sy)))) (st' := []) rfl rfl ?_
      obtain ⟨L624, eL624⟩ : ∃ q, q = jSto1 L623 3 (.int (i32 (sy))) := ⟨_, rfl⟩
      rw [← eL624]
      have gL624_0 : jGet L624 0 = some (.ref 66) := eL624 ▸ jg_ne (by decide) gL623_0 rfl
      have gL624_1 : jGet L624 1 = some (.int (i32 (lv))) := eL624 ▸ jg_ne (by decide) gL623_1 rfl
      have gL624_2 : jGet L624 2 = some (.int (i32 (vi))) := eL624 ▸ jg_ne (by decide) gL623_2 rfl
      have gL624_3 : jGet L624 3 = some (.int (i32 (sy))) := eL624 ▸ jg_eq
      refine jx_ar (pc' := 21) (st' := [.int (i32 (0))]) rfl rfl rfl rfl ?_
      refine jx_ld (pc' := 23) (l' := jSto1 L624 4 (.int (i32 (0)))) (st' := []) rfl rfl ?_
      obtain ⟨L625, eL625⟩ : ∃ q, q = jSto1 L624 4 (.int (i32 (0))) := ⟨_, rfl⟩
      rw [← eL625]
      have gL625_0 : jGet L625 0 = some (.ref 66) := eL625 ▸ jg_ne (by decide) gL624_0 rfl
      have gL625_1 : jGet L625 1 = some (.int (i32 (lv))) := eL625 ▸ jg_ne (by decide) gL624_1 rfl
      have gL625_2 : jGet L625 2 = some (.int (i32 (vi))) := eL625 ▸ jg_ne (by decide) gL624_2 rfl
      have gL625_3 : jGet L625 3 = some (.int (i32 (sy))) := eL625 ▸ jg_ne (by decide) gL624_3 rfl
      have gL625_4 : jGet L625 4 = some (.int (i32 (0))) := eL625 ▸ jg_eq
      refine jx_ld (pc' := 24) (l' := L625) (st' := [.ref 66]) rfl (jl_aloadn gL625_0) ?_
      refine jx_vr (pc' := 27) (as := []) (st := []) rfl rfl rfl rfl ⟨rfl, rfl, Nat.le_of_ble_eq_true rfl⟩ rfl rfl (c_openLine (dd := d) (hd := by omega) (hW := hW606)  (ln := ln) (e_ln := show G602 9 = ln from ((hF607.1 9 rfl).trans (e_ln))) (le := A 4 (ln).toNat) (e_le := show A603 4 (ln).toNat = A 4 (ln).toNat from (congrFun (hF607.2 4 rfl) _)) (lf := lf) (e_lf := show A603 3 (ln).toNat = lf from (congrFun (hF607.2 3 rfl) _).trans (e_lf))    (p_0 := by omega)) (fun o V' hq => ?_)
      obtain ⟨G626, A627, at2_628, tk2_629, op2_630, rfl, rfl, hW631, hF632, e633, e634, e635, p636, p637, p638, p639, -⟩ := hq
      have hF641 := Fr_tr hF611 hF632 (Fr_sub (by decide)) (Fr_sub (by decide))
      have hP642 := Pf_f hP612 hF632 (by decide)
      have hS643 := Fx_f hS613 hF632 (by decide)
      have hV644 := Fx_f hV614 hF632 (by decide)
      have bat2_628 : (0 : Int) ≤ at2_628 ∧ at2_628 ≤ 3002 := e633 ▸ hW631.1 10
      have ztk2_629 := tz_b tk2_629
      have btk2_629 : (0 : Int) ≤ tk2_629 ∧ tk2_629 ≤ 5 := e634 ▸ hW631.1 11
      have bop2_630 : (-2147483648 : Int) ≤ op2_630 ∧ op2_630 ≤ 2147483647 := e635 ▸ hW631.1 15
      refine .inl ⟨rfl, ?_⟩
      have z645 := tz_f (tk2_629)
      exact c_readProcess_s_at_27 (X := X) (k := k) (hP := hP) (d := d) (Vs := Vs) (sb := sb) (pb := pb) (hvb := hvb) (c0 := c0) (c1 := c1) (G := G) (A := A) (T := T) (lv := lv) (at0 := at0) (ln := ln) (li := li) (fk := fk) (nd := nd) (sy := sy) (na := na) (vi := vi) (lf := lf) (ac := ac) (hd := hd) (hW := hW) (e_ln := e_ln) (e_li := e_li) (e_fk := e_fk) (e_nd := e_nd) (e_sy := e_sy) (e_na := e_na) (e_vi := e_vi) (e_lf := e_lf) (e_ac := e_ac) (i_LT := i_LT) (i_SV := i_SV) (i_PQ := i_PQ) (h_lv := h_lv) (p_0 := p_0) (p_1 := p_1) (p_2 := p_2) (p_3 := p_3) (p_4 := p_4) (p_5 := p_5) (p_6 := p_6) (p_7 := p_7) (p_8 := p_8) (p_9 := p_9) (p_10 := p_10) _ L625 G626 A627 (0) (ln) (at2_628) (tk2_629) (fk2_605) (op2_630) (sy) (na) (vi) (A 4 (ln).toNat) rfl gL625_0 gL625_1 gL625_2 gL625_3 gL625_4 hW631 hF641 hP642 hS643 hV644 (((hF632.1 9 rfl).trans ((hF607.1 9 rfl).trans (e_ln)))) ((e633)) ((e634)) (((hF632.1 16 rfl).trans (e609))) ((e635)) (((hF632.1 19 rfl).trans ((hF607.1 19 rfl).trans (e_sy)))) (((hF632.1 28 rfl).trans ((hF607.1 28 rfl).trans (e_na)))) (((hF632.1 29 rfl).trans ((hF607.1 29 rfl).trans (e_vi)))) ((congrFun ((hF632.2 4 rfl).trans (hF607.2 4 rfl)) _)) (((hF632.1 31 rfl).trans ((hF607.1 31 rfl).trans (e_nd)))) (by omega) (by omega) (by omega) (by omega) (by omega) (by omega) (by omega) (by omega) (by omega) (by omega) (by omega) (by omega) (by omega) (wD_nil) (DS_nil)
    · have _q := h622
      exact absurd h622 (by omega)
  · have _q : True := trivial
    refine jx_if_ne (pc' := 8) (tg := 10) rfl rfl rfl (by decide) (by decide) (fun h646 => ?_) (fun h646 => ?_)
    · have _q := h646
      exact absurd h646 (by omega)
    · have _q := h646
      refine jx_ar (pc' := 9) (st' := [.int (i32 (0))]) rfl rfl rfl rfl ?_
      refine jx_rt (v := some (.int (i32 (0)))) rfl rfl rfl rfl rfl rfl ?_
      exact ⟨_, _, _, ln, ac, fk2_605, nd, sy, na, vi, lf, rfl, rfl, hW606, hF611, hP612, hS613, hV614, by omega, ((hF607.1 9 rfl).trans (e_ln)), ((hF607.1 10 rfl).trans (e_ac)), (e609), ((hF607.1 31 rfl).trans (e_nd)), ((hF607.1 19 rfl).trans (e_sy)), ((hF607.1 28 rfl).trans (e_na)), ((hF607.1 29 rfl).trans (e_vi)), (congrFun (hF607.2 3 rfl) _).trans (e_lf), by omega, by omega, by omega, by omega, by omega, by omega, by omega, by omega, by omega, by first | exact Or.inl (⟨by omega, by omega⟩)⟩
set_option maxRecDepth 20000 in
set_option maxHeartbeats 4000000 in
theorem c_readProcess_0 {X : jX} {dd : Nat} {Vs : Nat → Prop} {sb pb : Int} (hvb : VB Vs sb) {c0 c1 : jC} {G : Nat → Int} {A : Nat → Nat → Int} {T : jH} {lv : Int} {at0 : Int} {ln li fk nd sy na vi lf ac : Int} (hd : 8 * 0 + 80 ≤ dd) (hW : Wk G A) (e_ln : G 9 = ln) (e_li : G 3 = li) (e_fk : G 16 = fk) (e_nd : G 31 = nd) (e_sy : G 19 = sy) (e_na : G 28 = na) (e_vi : G 29 = vi) (e_lf : A 3 (ln).toNat = lf) (e_ac : G 10 = ac) (i_LT : LT G A) (i_SV : SV Vs sb G A) (i_PQ : PQ Vs sb pb G A) (h_lv : (-2147483648 : Int) ≤ lv ∧ lv ≤ 2147483647) (p_0 : 0 ≤ lv ∧ lv ≤ 40) (p_1 : 18 - lv ≤ ((0 : Nat) : Int)) (p_2 : fk = 0) (p_3 : ln ≤ li) (p_4 : at0 < lf ∨ li ≤ ln) (p_5 : nd ≤ 2 * at0 + 32) (p_6 : sy ≤ na + 2) (p_7 : vi ≤ sy) (p_8 : at0 ≤ ac) (p_9 : -1 ≤ at0) (p_10 : sb ≤ sy) : wk X dd 292 [.ref 66, .int (i32 lv)] (rV c0 c1 G A T) (fun o V' => ∃ (G' : Nat → Int) (A' : Nat → Nat → Int) (r : Int) (ln2 : Int) (at2 : Int) (fk2 : Int) (nd2 : Int) (sy2 : Int) (na2 : Int) (vi2 : Int) (lf2 : Int), V' = rV c0 c1 G' A' T ∧ o = .inl (some (.int (i32 r))) ∧ Wk G' A' ∧ Fr [9, 10, 11, 12, 13, 14, 15, 16, 17, 18, 19, 28, 29, 31] [6, 7, 8, 9, 10, 11, 12, 14, 15, 16, 17, 18, 19, 20, 21, 22, 23, 24, 28] G A G' A' ∧ Pf nd A A' ∧ Fx sr (sy) A A' ∧ Fx [14] (vi) A A' ∧ ((-2147483648 : Int) ≤ r ∧ r ≤ 2147483647) ∧ G' 9 = ln2 ∧ G' 10 = at2 ∧ G' 16 = fk2 ∧ G' 31 = nd2 ∧ G' 19 = sy2 ∧ G' 28 = na2 ∧ G' 29 = vi2 ∧ A' 3 (ln2).toNat = lf2 ∧ (at0 ≤ at2) ∧ (nd ≤ nd2) ∧ (sy ≤ sy2) ∧ (sy2 ≤ na2 + 2) ∧ (vi2 = vi) ∧ (0 ≤ r) ∧ (r ≤ 6999) ∧ (ln ≤ ln2) ∧ (ln2 ≤ li) ∧ (((1 ≤ fk2) ∧ (nd2 - nd ≤ 2 * at2 - 2 * at0 + 12)) ∨ ((fk2 = 0) ∧ (ln < ln2) ∧ (nd2 - nd ≤ 2 * at2 - 2 * at0) ∧ (at2 < lf2 ∨ li ≤ ln2) ∧ (nd ≤ r) ∧ (r < nd2) ∧ (wP A' (sy2) pb (0) (Vs) (r) (nd) (nd2) (sy) (sy2)) ∧ (NX A' (r))))) := by
  obtain ⟨d, rfl⟩ : ∃ d, dd = d + 1 := ⟨dd - 1, by omega⟩
  refine wk_of (e := jm292) rfl (Nat.le_of_ble_eq_true rfl) ?_
  show wj X d jm292 (0, [(0, .ref 66), (1, .int (i32 (lv)))], [], rV c0 c1 G A T) _
  have hF0 : Fr [9, 10, 11, 12, 13, 14, 15, 16, 17, 18, 19, 28, 29, 31] [6, 7, 8, 9, 10, 11, 12, 14, 15, 16, 17, 18, 19, 20, 21, 22, 23, 24, 28] G A G A := Fr_rf
  have hP0 : Pf nd A A := Pf_rf
  have hS0 : Fx sr (sy) A A := Fx_rf
  have hV0 : Fx [14] (vi) A A := Fx_rf
  have b_ln : (0 : Int) ≤ ln ∧ ln ≤ 3000 := e_ln ▸ hW.1 9
  have b_li : (0 : Int) ≤ li ∧ li ≤ 3000 := e_li ▸ hW.1 3
  have b_fk : (0 : Int) ≤ fk ∧ fk ≤ 6 := e_fk ▸ hW.1 16
  have b_nd : (0 : Int) ≤ nd ∧ nd ≤ 6999 := e_nd ▸ hW.1 31
  have b_sy : (0 : Int) ≤ sy ∧ sy ≤ 202 := e_sy ▸ hW.1 19
  have b_na : (0 : Int) ≤ na ∧ na ≤ 200 := e_na ▸ hW.1 28
  have b_vi : (0 : Int) ≤ vi ∧ vi ≤ 202 := e_vi ▸ hW.1 29
  have b_lf : (0 : Int) ≤ lf ∧ lf ≤ 3000 := e_lf ▸ hW.2 3 _
  have b_ac : (0 : Int) ≤ ac ∧ ac ≤ 3002 := e_ac ▸ hW.1 10
  refine jx_ld (pc' := 1) (l' := [(0, .ref 66), (1, .int (i32 (lv)))]) (st' := [.ref 66]) rfl (jl_aloadn rfl) ?_
  refine jx_ld (pc' := 2) (l' := [(0, .ref 66), (1, .int (i32 (lv)))]) (st' := [.int (i32 (lv)), .ref 66]) rfl (jl_iloadn rfl) ?_
  have b1 : (-1 : Int) ≤ A 5 (ln).toNat ∧ A 5 (ln).toNat ≤ 15 := hW.2 5 _
  refine jx_vr (pc' := 5) (as := [.int (i32 (lv))]) (st := []) rfl rfl rfl rfl ⟨rfl, rfl, Nat.le_of_ble_eq_true rfl⟩ rfl rfl (c_needLevel (dd := d) (hd := by omega) (hW := hW) (lv := lv) (ln := ln) (e_ln := show G 9 = ln from (e_ln)) (li := li) (e_li := show G 3 = li from (e_li)) (fk := fk) (e_fk := show G 16 = fk from (e_fk)) (ll := A 5 (ln).toNat) (e_ll := show A 5 (ln).toNat = A 5 (ln).toNat from rfl)  (h_lv := ⟨(Int.le_trans (by decide : (-2147483648 : Int) ≤ -2147483648) h_lv.1), (Int.le_trans h_lv.2 (by decide : (2147483647 : Int) ≤ 2147483647))⟩)  ) (fun o V' hq => ?_)
  obtain ⟨G2, A3, r4, fk2_5, rfl, rfl, hW6, hF7, b8, e9, q10⟩ := hq
  have hF11 := Fr_tr hF0 hF7 (Fr_sub (by decide)) (Fr_sub (by decide))
  have hP12 := Pf_f hP0 hF7 (by decide)
  have hS13 := Fx_f hS0 hF7 (by decide)
  have hV14 := Fx_f hV0 hF7 (by decide)
  have bfk2_5 : (0 : Int) ≤ fk2_5 ∧ fk2_5 ≤ 6 := e9 ▸ hW6.1 16
  refine .inr ⟨_, rfl, ?_⟩
  rcases q10 with ⟨rfl, a15, a16, a17, a18⟩ | ⟨rfl, a19⟩
  · have _q : True := trivial
    have b20 : (0 : Int) ≤ A 4 (ln).toNat ∧ A 4 (ln).toNat ≤ 3000 := hW.2 4 _
    have lt21 : lf < A 4 (ln).toNat := LT_at (LT_ext ((hF7.1 3 rfl)) ((hF7.2 3 rfl)) ((hF7.2 4 rfl)) i_LT) (show G2 3 = li from ((hF7.1 3 rfl).trans (e_li))) (show A3 3 (ln).toNat = lf from (congrFun (hF7.2 3 rfl) _).trans (e_lf)) (show A3 4 (ln).toNat = A 4 (ln).toNat from (congrFun (hF7.2 4 rfl) _)) (by omega) (by omega)
    refine jx_if_ne (pc' := 8) (tg := 10) rfl rfl rfl (by decide) (by decide) (fun h22 => ?_) (fun h22 => ?_)
    · have _q := h22
      exfalso
      omega
    · have _q := h22
      exact absurd h22 (by omega)
  · have _q : True := trivial
    refine jx_if_ne (pc' := 8) (tg := 10) rfl rfl rfl (by decide) (by decide) (fun h23 => ?_) (fun h23 => ?_)
    · have _q := h23
      exact absurd h23 (by omega)
    · have _q := h23
      refine jx_ar (pc' := 9) (st' := [.int (i32 (0))]) rfl rfl rfl rfl ?_
      refine jx_rt (v := some (.int (i32 (0)))) rfl rfl rfl rfl rfl rfl ?_
      exact ⟨_, _, _, ln, ac, fk2_5, nd, sy, na, vi, lf, rfl, rfl, hW6, hF11, hP12, hS13, hV14, by omega, ((hF7.1 9 rfl).trans (e_ln)), ((hF7.1 10 rfl).trans (e_ac)), (e9), ((hF7.1 31 rfl).trans (e_nd)), ((hF7.1 19 rfl).trans (e_sy)), ((hF7.1 28 rfl).trans (e_na)), ((hF7.1 29 rfl).trans (e_vi)), (congrFun (hF7.2 3 rfl) _).trans (e_lf), by omega, by omega, by omega, by omega, by omega, by omega, by omega, by omega, by omega, by first | exact Or.inl (⟨by omega, by omega⟩)⟩
theorem RP_all (X : jX) : ∀ k, RP X k
  | 0 => @c_readProcess_0 X
  | k + 1 => @c_readProcess_s X k (RP_all X k)

