set_option maxRecDepth 20000 in
set_option maxHeartbeats 4000000 in
theorem c_readAlt_at_24 {X : jX} {k : Nat} (hP : RP X k) {d : Nat} {Vs : Nat → Prop} {sb pb : Int} (hvb : VB Vs sb) {c0 c1 : jC} {G : Nat → Int} {A : Nat → Nat → Int} {T : jH} {lv : Int} {ln li at0 fk nd sy na vi le op0 tk0 : Int} (hd : 8 * k + 82 ≤ d + 1) (hW : Wk G A) (e_ln : G 9 = ln) (e_li : G 3 = li) (e_at0 : G 10 = at0) (e_fk : G 16 = fk) (e_nd : G 31 = nd) (e_sy : G 19 = sy) (e_na : G 28 = na) (e_vi : G 29 = vi) (e_le : A 4 (ln).toNat = le) (e_op0 : G 15 = op0) (e_tk0 : G 11 = tk0) (i_LT : LT G A) (i_SV : SV Vs sb G A) (i_PQ : PQ Vs sb pb G A) (h_lv : (-2147483648 : Int) ≤ lv ∧ lv ≤ 2147483647) (p_0 : 0 ≤ lv ∧ lv ≤ 15) (p_1 : 18 - lv ≤ ((k + 1 : Nat) : Int)) (p_2 : fk = 0) (p_3 : ln < li) (p_4 : at0 ≤ le) (p_5 : op0 = 0) (p_6 : nd ≤ 2 * at0 - tz tk0 + 30) (p_7 : sy ≤ na + 2) (p_8 : vi ≤ sy) (p_9 : sb = sy) (p_10 : 1 ≤ tk0) : ∀ (m : Nat) (L : jL) (Gx : Nat → Int) (Ax : Nat → Nat → Int) (n last many ln1 at1 fk1 nd1 sy1 na1 vi1 lf1 : Int), (li - ln1).toNat = m → jGet L 0 = some (.ref 66) → jGet L 1 = some (.int (i32 (lv))) → jGet L 2 = some (.int (i32 n)) → jGet L 3 = some (.int (i32 last)) → jGet L 4 = some (.int (i32 many)) → Wk Gx Ax → Fr [9, 10, 11, 12, 13, 14, 15, 16, 17, 18, 19, 28, 29, 31] [6, 7, 8, 9, 10, 11, 12, 14, 15, 16, 17, 18, 19, 20, 21, 22, 23, 24, 28] G A Gx Ax → Pf nd A Ax → Fx sr (sy) A Ax → Fx [14] (vi) A Ax → Gx 9 = ln1 → Gx 10 = at1 → Gx 16 = fk1 → Gx 31 = nd1 → Gx 19 = sy1 → Gx 28 = na1 → Gx 29 = vi1 → Ax 3 (ln1).toNat = lf1 → ((-2147483648 : Int) ≤ n ∧ n ≤ 2147483647) → ((-2147483648 : Int) ≤ last ∧ last ≤ 2147483647) → ((-2147483648 : Int) ≤ many ∧ many ≤ 2147483647) → (fk1 = 0) → (at0 ≤ at1) → (nd ≤ n ∧ n ≤ 6998 ∧ n < nd1) → (sy ≤ sy1) → (sy1 ≤ na1 + 2) → (vi1 = vi) → (ln < ln1) → (ln1 ≤ li) → (nd1 - nd ≤ 2 * at1 - (2 * at0 - tz tk0)) → (at1 < lf1 ∨ li ≤ ln1) → (n = nd) → (0 ≤ last ∧ last ≤ 6998) → (last = 0 ∨ n < last) → (last < nd1) → (0 ≤ many ∧ many ≤ 8) → (ND Ax (n) (32) (0) (0) (0) (0) (Ax 21 (n).toNat) (0)) → (CL 2 Ax (sy1) pb (k) (Vs) (n) (last) (many) (n + 1) (nd1) (sy) (sy1)) → wj X d jm302 (24, L, [], rV c0 c1 Gx Ax T) (fun o V' => ∃ (G' : Nat → Int) (A' : Nat → Nat → Int) (r : Int) (ln2 : Int) (at2 : Int) (fk2 : Int) (nd2 : Int) (sy2 : Int) (na2 : Int) (vi2 : Int) (lf2 : Int), V' = rV c0 c1 G' A' T ∧ o = .inl (some (.int (i32 r))) ∧ Wk G' A' ∧ Fr [9, 10, 11, 12, 13, 14, 15, 16, 17, 18, 19, 28, 29, 31] [6, 7, 8, 9, 10, 11, 12, 14, 15, 16, 17, 18, 19, 20, 21, 22, 23, 24, 28] G A G' A' ∧ Pf nd A A' ∧ Fx sr (sy) A A' ∧ Fx [14] (vi) A A' ∧ ((-2147483648 : Int) ≤ r ∧ r ≤ 2147483647) ∧ G' 9 = ln2 ∧ G' 10 = at2 ∧ G' 16 = fk2 ∧ G' 31 = nd2 ∧ G' 19 = sy2 ∧ G' 28 = na2 ∧ G' 29 = vi2 ∧ A' 3 (ln2).toNat = lf2 ∧ (at0 ≤ at2) ∧ (nd ≤ nd2) ∧ (sy ≤ sy2) ∧ (sy2 ≤ na2 + 2) ∧ (vi ≤ vi2) ∧ (vi2 ≤ vi + 1) ∧ (0 ≤ r) ∧ (r ≤ 6999) ∧ (ln ≤ ln2) ∧ (ln2 ≤ li) ∧ (((1 ≤ fk2) ∧ (nd2 - nd ≤ 2 * at2 - (2 * at0 - tz tk0) + 14)) ∨ ((fk2 = 0) ∧ (vi2 = vi) ∧ (ln < ln2) ∧ (nd2 - nd ≤ 2 * at2 - (2 * at0 - tz tk0)) ∧ (at2 < lf2 ∨ li ≤ ln2) ∧ (nd ≤ r) ∧ (r < nd2) ∧ (wSt A' (sy2) pb (wP A' (sy2) pb (k)) (Vs) (r) (nd) (nd2) (sy) (sy2)) ∧ (NX A' (r))))) := by
  have hF0 : Fr [9, 10, 11, 12, 13, 14, 15, 16, 17, 18, 19, 28, 29, 31] [6, 7, 8, 9, 10, 11, 12, 14, 15, 16, 17, 18, 19, 20, 21, 22, 23, 24, 28] G A G A := Fr_rf
  have hP0 : Pf nd A A := Pf_rf
  have hS0 : Fx sr (sy) A A := Fx_rf
  have hV0 : Fx [14] (vi) A A := Fx_rf
  have b_ln : (0 : Int) ≤ ln ∧ ln ≤ 3000 := e_ln ▸ hW.1 9
  have b_li : (0 : Int) ≤ li ∧ li ≤ 3000 := e_li ▸ hW.1 3
  have b_at0 : (0 : Int) ≤ at0 ∧ at0 ≤ 3002 := e_at0 ▸ hW.1 10
  have b_fk : (0 : Int) ≤ fk ∧ fk ≤ 6 := e_fk ▸ hW.1 16
  have b_nd : (0 : Int) ≤ nd ∧ nd ≤ 6999 := e_nd ▸ hW.1 31
  have b_sy : (0 : Int) ≤ sy ∧ sy ≤ 202 := e_sy ▸ hW.1 19
  have b_na : (0 : Int) ≤ na ∧ na ≤ 200 := e_na ▸ hW.1 28
  have b_vi : (0 : Int) ≤ vi ∧ vi ≤ 202 := e_vi ▸ hW.1 29
  have b_le : (0 : Int) ≤ le ∧ le ≤ 3000 := e_le ▸ hW.2 4 _
  have b_op0 : (-2147483648 : Int) ≤ op0 ∧ op0 ≤ 2147483647 := e_op0 ▸ hW.1 15
  have z_tk0 := tz_f tk0
  have b_tk0 : (0 : Int) ≤ tk0 ∧ tk0 ≤ 5 := e_tk0 ▸ hW.1 11
  intro m
  induction m using Nat.strongRecOn with
  | ind m ih24 =>
    intro L Gx Ax n last many ln1 at1 fk1 nd1 sy1 na1 vi1 lf1 hm gL_0 gL_1 gL_2 gL_3 gL_4 hWx hFx hPx hSx hVx ex_ln1 ex_at1 ex_fk1 ex_nd1 ex_sy1 ex_na1 ex_vi1 ex_lf1 rx_n rx_last rx_many iv_0 iv_1 iv_2 iv_3 iv_4 iv_5 iv_6 iv_7 iv_8 iv_9 iv_10 iv_11 iv_12 iv_13 iv_14 iv_15 iv_16
    have b_ln1 : (0 : Int) ≤ ln1 ∧ ln1 ≤ 3000 := ex_ln1 ▸ hWx.1 9
    have b_at1 : (0 : Int) ≤ at1 ∧ at1 ≤ 3002 := ex_at1 ▸ hWx.1 10
    have b_fk1 : (0 : Int) ≤ fk1 ∧ fk1 ≤ 6 := ex_fk1 ▸ hWx.1 16
    have b_nd1 : (0 : Int) ≤ nd1 ∧ nd1 ≤ 6999 := ex_nd1 ▸ hWx.1 31
    have b_sy1 : (0 : Int) ≤ sy1 ∧ sy1 ≤ 202 := ex_sy1 ▸ hWx.1 19
    have b_na1 : (0 : Int) ≤ na1 ∧ na1 ≤ 200 := ex_na1 ▸ hWx.1 28
    have b_vi1 : (0 : Int) ≤ vi1 ∧ vi1 ≤ 202 := ex_vi1 ▸ hWx.1 29
    refine jx_ld (pc' := 25) (l' := L) (st' := [.ref 66]) rfl (jl_aloadn gL_0) ?_
    refine jx_ld (pc' := 26) (l' := L) (st' := [.int (i32 (lv)), .ref 66]) rfl (jl_iloadn gL_1) ?_
    have b1 : (-1 : Int) ≤ A 5 (ln1).toNat ∧ A 5 (ln1).toNat ≤ 15 := hW.2 5 _
    refine jx_vr (pc' := 29) (as := [.int (i32 (lv))]) (st := []) rfl rfl rfl rfl ⟨rfl, rfl, Nat.le_of_ble_eq_true rfl⟩ rfl rfl (c_isBelow (dd := d) (hd := by omega) (hW := hWx) (lv := lv) (ln := ln1) (e_ln := show Gx 9 = ln1 from (ex_ln1)) (li := li) (e_li := show Gx 3 = li from ((hFx.1 3 rfl).trans (e_li))) (fk := fk1) (e_fk := show Gx 16 = fk1 from (ex_fk1)) (ll := A 5 (ln1).toNat) (e_ll := show Ax 5 (ln1).toNat = A 5 (ln1).toNat from (congrFun (hFx.2 5 rfl) _))  (h_lv := ⟨(Int.le_trans (by decide : (-2147483648 : Int) ≤ -2147483648) h_lv.1), (Int.le_trans h_lv.2 (by decide : (2147483647 : Int) ≤ 2147483647))⟩)  (p_0 := by omega)) (fun o V' hq => ?_)
    obtain ⟨G2, A3, r4, fk2_5, rfl, rfl, hW6, hF7, b8, e9, q10⟩ := hq
    have hF11 := Fr_tr hFx hF7 (Fr_sub (by decide)) (Fr_sub (by decide))
    have hP12 := Pf_f hPx hF7 (by decide)
    have hS13 := Fx_f hSx hF7 (by decide)
    have hV14 := Fx_f hVx hF7 (by decide)
    have sf15 : ND A3 (n) (32) (0) (0) (0) (0) (Ax 21 (n).toNat) (0) := ND_ag (by omega) (Ag_fr hF7 (by decide)) iv_15
    have sf16 : CL 2 A3 (sy1) pb (k) (Vs) (n) (last) (many) (n + 1) (nd1) (sy) (sy1) := CL_ag (by omega) (by omega) (Sg_fr hF7 (by decide)) (Qg_fr hF7 (by decide)) (Ag_fr hF7 (by decide)) (congrFun (hF7.2 21 rfl) _) iv_16
    have bfk2_5 : (0 : Int) ≤ fk2_5 ∧ fk2_5 ≤ 6 := e9 ▸ hW6.1 16
    refine .inr ⟨_, rfl, ?_⟩
    rcases q10 with ⟨rfl, a17, a18, a19, a20⟩ | ⟨rfl, a21⟩ | ⟨rfl, a22, a23, a24⟩
    · have _q : True := trivial
      have b25 : (0 : Int) ≤ A 4 (ln1).toNat ∧ A 4 (ln1).toNat ≤ 3000 := hW.2 4 _
      have lt26 : lf1 < A 4 (ln1).toNat := LT_at (LT_ext (((hF7.1 3 rfl).trans (hFx.1 3 rfl))) (((hF7.2 3 rfl).trans (hFx.2 3 rfl))) (((hF7.2 4 rfl).trans (hFx.2 4 rfl))) i_LT) (show G2 3 = li from ((hF7.1 3 rfl).trans ((hFx.1 3 rfl).trans (e_li)))) (show A3 3 (ln1).toNat = lf1 from (congrFun (hF7.2 3 rfl) _).trans (ex_lf1)) (show A3 4 (ln1).toNat = A 4 (ln1).toNat from (congrFun ((hF7.2 4 rfl).trans (hFx.2 4 rfl)) _)) (by omega) (by omega)
      refine jx_if_eq (pc' := 32) (tg := 130) rfl rfl rfl (by decide) (by decide) (fun h27 => ?_) (fun h27 => ?_)
      · have _q := h27
        exact absurd h27 (by omega)
      · have _q := h27
        refine jx_ld (pc' := 34) (l' := L) (st' := [.int (i32 (many))]) rfl (jl_iload gL_4) ?_
        refine jx_ar (pc' := 36) (st' := [.int (i32 (8)), .int (i32 (many))]) rfl rfl rfl rfl ?_
        refine jx_icmp_ne (pc' := 39) (tg := 65) rfl rfl rfl (Int.le_trans (by decide : (-2147483648 : Int) ≤ -2147483648) rx_many.1) (Int.le_trans rx_many.2 (by decide : (2147483647 : Int) ≤ 2147483647)) (by decide) (by decide) (fun h28 => ?_) (fun h28 => ?_)
        · have _q := h28
          refine jx_ld (pc' := 66) (l' := L) (st' := [.ref 66]) rfl (jl_aloadn gL_0) ?_
          refine jx_vr (pc' := 69) (as := []) (st := []) rfl rfl rfl rfl ⟨rfl, rfl, Nat.le_of_ble_eq_true rfl⟩ rfl rfl (c_openLine (dd := d) (hd := by omega) (hW := hW6)  (ln := ln1) (e_ln := show G2 9 = ln1 from ((hF7.1 9 rfl).trans (ex_ln1))) (le := A 4 (ln1).toNat) (e_le := show A3 4 (ln1).toNat = A 4 (ln1).toNat from (congrFun ((hF7.2 4 rfl).trans (hFx.2 4 rfl)) _)) (lf := lf1) (e_lf := show A3 3 (ln1).toNat = lf1 from (congrFun (hF7.2 3 rfl) _).trans (ex_lf1))    (p_0 := by omega)) (fun o V' hq => ?_)
          obtain ⟨G29, A30, at2_31, tk2_32, op2_33, rfl, rfl, hW34, hF35, e36, e37, e38, p39, p40, p41, p42, -⟩ := hq
          have hF44 := Fr_tr hF11 hF35 (Fr_sub (by decide)) (Fr_sub (by decide))
          have hP45 := Pf_f hP12 hF35 (by decide)
          have hS46 := Fx_f hS13 hF35 (by decide)
          have hV47 := Fx_f hV14 hF35 (by decide)
          have sf48 : ND A30 (n) (32) (0) (0) (0) (0) (Ax 21 (n).toNat) (0) := ND_ag (by omega) (Ag_fr hF35 (by decide)) sf15
          have sf49 : CL 2 A30 (sy1) pb (k) (Vs) (n) (last) (many) (n + 1) (nd1) (sy) (sy1) := CL_ag (by omega) (by omega) (Sg_fr hF35 (by decide)) (Qg_fr hF35 (by decide)) (Ag_fr hF35 (by decide)) (congrFun (hF35.2 21 rfl) _) sf16
          have bat2_31 : (0 : Int) ≤ at2_31 ∧ at2_31 ≤ 3002 := e36 ▸ hW34.1 10
          have ztk2_32 := tz_b tk2_32
          have btk2_32 : (0 : Int) ≤ tk2_32 ∧ tk2_32 ≤ 5 := e37 ▸ hW34.1 11
          have bop2_33 : (-2147483648 : Int) ≤ op2_33 ∧ op2_33 ≤ 2147483647 := e38 ▸ hW34.1 15
          refine .inl ⟨rfl, ?_⟩
          refine jx_ld (pc' := 70) (l' := L) (st' := [.ref 66]) rfl (jl_aloadn gL_0) ?_
          refine jx_vr (pc' := 73) (as := []) (st := []) rfl rfl rfl rfl ⟨rfl, rfl, Nat.le_of_ble_eq_true rfl⟩ rfl rfl (c_readGuard (dd := d) (hd := by omega) (hW := hW34)  (ln := ln1) (e_ln := show G29 9 = ln1 from ((hF35.1 9 rfl).trans ((hF7.1 9 rfl).trans (ex_ln1)))) (le := A 4 (ln1).toNat) (e_le := show A30 4 (ln1).toNat = A 4 (ln1).toNat from (congrFun ((hF35.2 4 rfl).trans ((hF7.2 4 rfl).trans (hFx.2 4 rfl))) _)) (at0 := at2_31) (e_at0 := show G29 10 = at2_31 from (e36)) (fk := fk2_5) (e_fk := show G29 16 = fk2_5 from ((hF35.1 16 rfl).trans (e9))) (op0 := op2_33) (e_op0 := show G29 15 = op2_33 from (e38)) (nd := nd1) (e_nd := show G29 31 = nd1 from ((hF35.1 31 rfl).trans ((hF7.1 31 rfl).trans (ex_nd1)))) (tk0 := tk2_32) (e_tk0 := show G29 11 = tk2_32 from (e37)) (li := li) (e_li := show G29 3 = li from ((hF35.1 3 rfl).trans ((hF7.1 3 rfl).trans ((hFx.1 3 rfl).trans (e_li))))) (i_SV := (SV_fx i_SV e_vi (show G29 29 = vi1 from ((hF35.1 29 rfl).trans ((hF7.1 29 rfl).trans (ex_vi1)))) (by omega) hV47))   (p_0 := by omega) (p_1 := by omega) (p_2 := by omega) (p_3 := by omega) (p_4 := by omega)) (fun o V' hq => ?_)
          obtain ⟨G50, A51, r52, at2_53, fk2_54, nd2_55, ln2_56, rfl, rfl, hW57, hF58, hQ59, b60, e61, e62, e63, e64, p65, p66, p67, p68, p69, q70⟩ := hq
          have hF71 := Fr_tr hF44 hF58 (Fr_sub (by decide)) (Fr_sub (by decide))
          have hP72 := Pf_tr hP45 hQ59 (by omega)
          have hS73 := Fx_f hS46 hF58 (by decide)
          have hV74 := Fx_f hV47 hF58 (by decide)
          have sf75 : ND A51 (n) (32) (0) (0) (0) (0) (Ax 21 (n).toNat) (0) := ND_ag (by omega) (Ag_pf hQ59 (by omega)) sf48
          have sf76 : CL 2 A51 (sy1) pb (k) (Vs) (n) (last) (many) (n + 1) (nd1) (sy) (sy1) := CL_ag (by omega) (by omega) (Sg_fr hF58 (by decide)) (Qg_fr hF58 (by decide)) (Ag_pf hQ59 (by omega)) (hQ59 21 _ rfl (by omega)) sf49
          have bat2_53 : (0 : Int) ≤ at2_53 ∧ at2_53 ≤ 3002 := e61 ▸ hW57.1 10
          have bfk2_54 : (0 : Int) ≤ fk2_54 ∧ fk2_54 ≤ 6 := e62 ▸ hW57.1 16
          have bnd2_55 : (0 : Int) ≤ nd2_55 ∧ nd2_55 ≤ 6999 := e63 ▸ hW57.1 31
          have bln2_56 : (0 : Int) ≤ ln2_56 ∧ ln2_56 ≤ 3000 := e64 ▸ hW57.1 9
          refine .inr ⟨_, rfl, ?_⟩
          rcases q70 with ⟨a77, a78, a79⟩ | ⟨a80, a81, a82, a83, a84, a85, a86⟩
          · have _q : True := trivial
            refine jx_ld (pc' := 75) (l' := jSto1 L 5 (.int (i32 (r52)))) (st' := []) rfl rfl ?_
            obtain ⟨L87, eL87⟩ : ∃ q, q = jSto1 L 5 (.int (i32 (r52))) := ⟨_, rfl⟩
            rw [← eL87]
            have gL87_0 : jGet L87 0 = some (.ref 66) := eL87 ▸ jg_ne (by decide) gL_0 rfl
            have gL87_1 : jGet L87 1 = some (.int (i32 (lv))) := eL87 ▸ jg_ne (by decide) gL_1 rfl
            have gL87_2 : jGet L87 2 = some (.int (i32 (n))) := eL87 ▸ jg_ne (by decide) gL_2 rfl
            have gL87_3 : jGet L87 3 = some (.int (i32 (last))) := eL87 ▸ jg_ne (by decide) gL_3 rfl
            have gL87_4 : jGet L87 4 = some (.int (i32 (many))) := eL87 ▸ jg_ne (by decide) gL_4 rfl
            have gL87_5 : jGet L87 5 = some (.int (i32 (r52))) := eL87 ▸ jg_eq
            refine jx_ld (pc' := 76) (l' := L87) (st' := [.ref 66]) rfl (jl_aloadn gL87_0) ?_
            refine jx_vr (pc' := 79) (as := []) (st := []) rfl rfl rfl rfl ⟨rfl, rfl, Nat.le_of_ble_eq_true rfl⟩ rfl rfl (c_bad (dd := d) (hd := by omega) (hW := hW57)  (fk := fk2_54) (e_fk := show G50 16 = fk2_54 from (e62))    ) (fun o V' hq => ?_)
            obtain ⟨r88, rfl, rfl, b89, q90⟩ := hq
            refine .inr ⟨_, rfl, ?_⟩
            rcases q90 with ⟨rfl, a91⟩ | ⟨rfl, a92⟩
            · have _q : True := trivial
              refine jx_if_eq (pc' := 82) (tg := 86) rfl rfl rfl (by decide) (by decide) (fun h93 => ?_) (fun h93 => ?_)
              · have _q := h93
                exact absurd h93 (by omega)
              · have _q := h93
                refine jx_ar (pc' := 83) (st' := [.int (i32 (0))]) rfl rfl rfl rfl ?_
                refine jx_go (tg := 93) rfl rfl ?_
                refine jx_ld (pc' := 95) (l' := jSto1 L87 6 (.int (i32 (0)))) (st' := []) rfl rfl ?_
                obtain ⟨L94, eL94⟩ : ∃ q, q = jSto1 L87 6 (.int (i32 (0))) := ⟨_, rfl⟩
                rw [← eL94]
                have gL94_0 : jGet L94 0 = some (.ref 66) := eL94 ▸ jg_ne (by decide) gL87_0 rfl
                have gL94_1 : jGet L94 1 = some (.int (i32 (lv))) := eL94 ▸ jg_ne (by decide) gL87_1 rfl
                have gL94_2 : jGet L94 2 = some (.int (i32 (n))) := eL94 ▸ jg_ne (by decide) gL87_2 rfl
                have gL94_3 : jGet L94 3 = some (.int (i32 (last))) := eL94 ▸ jg_ne (by decide) gL87_3 rfl
                have gL94_4 : jGet L94 4 = some (.int (i32 (many))) := eL94 ▸ jg_ne (by decide) gL87_4 rfl
                have gL94_5 : jGet L94 5 = some (.int (i32 (r52))) := eL94 ▸ jg_ne (by decide) gL87_5 rfl
                have gL94_6 : jGet L94 6 = some (.int (i32 (0))) := eL94 ▸ jg_eq
                refine jx_ld (pc' := 96) (l' := L94) (st' := [.ref 66]) rfl (jl_aloadn gL94_0) ?_
                refine jx_vr (pc' := 99) (as := []) (st := []) rfl rfl rfl rfl ⟨rfl, rfl, Nat.le_of_ble_eq_true rfl⟩ rfl rfl (c_bad (dd := d) (hd := by omega) (hW := hW57)  (fk := fk2_54) (e_fk := show G50 16 = fk2_54 from (e62))    ) (fun o V' hq => ?_)
                obtain ⟨r95, rfl, rfl, b96, q97⟩ := hq
                refine .inr ⟨_, rfl, ?_⟩
                rcases q97 with ⟨rfl, a98⟩ | ⟨rfl, a99⟩
                · have _q : True := trivial
                  refine jx_if_eq (pc' := 102) (tg := 104) rfl rfl rfl (by decide) (by decide) (fun h100 => ?_) (fun h100 => ?_)
                  · have _q := h100
                    exact absurd h100 (by omega)
                  · have _q := h100
                    refine jx_ar (pc' := 103) (st' := [.int (i32 (0))]) rfl rfl rfl rfl ?_
                    refine jx_rt (v := some (.int (i32 (0)))) rfl rfl rfl rfl rfl rfl ?_
                    exact ⟨_, _, _, ln2_56, at2_53, fk2_54, nd2_55, sy1, na1, vi1, A 3 (ln2_56).toNat, rfl, rfl, hW57, hF71, hP72, hS73, hV74, by omega, (e64), (e61), (e62), (e63), ((hF58.1 19 rfl).trans ((hF35.1 19 rfl).trans ((hF7.1 19 rfl).trans (ex_sy1)))), ((hF58.1 28 rfl).trans ((hF35.1 28 rfl).trans ((hF7.1 28 rfl).trans (ex_na1)))), ((hF58.1 29 rfl).trans ((hF35.1 29 rfl).trans ((hF7.1 29 rfl).trans (ex_vi1)))), (congrFun ((hF58.2 3 rfl).trans ((hF35.2 3 rfl).trans ((hF7.2 3 rfl).trans (hFx.2 3 rfl)))) _), by omega, by omega, by omega, by omega, by omega, by omega, by omega, by omega, by omega, by omega, by first | exact Or.inl (⟨by omega, by omega⟩)⟩
                · have _q : True := trivial
                  exfalso
                  omega
            · have _q : True := trivial
              exfalso
              omega
          · have _q : True := trivial
            have b101 : (0 : Int) ≤ A 3 (ln2_56).toNat ∧ A 3 (ln2_56).toNat ≤ 3000 := hW.2 3 _
            have lt102 : ln2_56 < li → A 4 (ln1).toNat < A 3 (ln2_56).toNat := fun hh => LT_nx (LT_ext (((hF58.1 3 rfl).trans ((hF35.1 3 rfl).trans ((hF7.1 3 rfl).trans (hFx.1 3 rfl))))) (((hF58.2 3 rfl).trans ((hF35.2 3 rfl).trans ((hF7.2 3 rfl).trans (hFx.2 3 rfl))))) (((hF58.2 4 rfl).trans ((hF35.2 4 rfl).trans ((hF7.2 4 rfl).trans (hFx.2 4 rfl))))) i_LT) (show G50 3 = li from ((hF58.1 3 rfl).trans ((hF35.1 3 rfl).trans ((hF7.1 3 rfl).trans ((hFx.1 3 rfl).trans (e_li)))))) (show A51 4 (ln1).toNat = A 4 (ln1).toNat from (congrFun ((hF58.2 4 rfl).trans ((hF35.2 4 rfl).trans ((hF7.2 4 rfl).trans (hFx.2 4 rfl)))) _)) (show A51 3 (ln2_56).toNat = A 3 (ln2_56).toNat from (congrFun ((hF58.2 3 rfl).trans ((hF35.2 3 rfl).trans ((hF7.2 3 rfl).trans (hFx.2 3 rfl)))) _)) (show ln2_56 = ln1 + 1 by omega) (by omega) hh
            refine jx_ld (pc' := 75) (l' := jSto1 L 5 (.int (i32 (r52)))) (st' := []) rfl rfl ?_
            obtain ⟨L103, eL103⟩ : ∃ q, q = jSto1 L 5 (.int (i32 (r52))) := ⟨_, rfl⟩
            rw [← eL103]
            have gL103_0 : jGet L103 0 = some (.ref 66) := eL103 ▸ jg_ne (by decide) gL_0 rfl
            have gL103_1 : jGet L103 1 = some (.int (i32 (lv))) := eL103 ▸ jg_ne (by decide) gL_1 rfl
            have gL103_2 : jGet L103 2 = some (.int (i32 (n))) := eL103 ▸ jg_ne (by decide) gL_2 rfl
            have gL103_3 : jGet L103 3 = some (.int (i32 (last))) := eL103 ▸ jg_ne (by decide) gL_3 rfl
            have gL103_4 : jGet L103 4 = some (.int (i32 (many))) := eL103 ▸ jg_ne (by decide) gL_4 rfl
            have gL103_5 : jGet L103 5 = some (.int (i32 (r52))) := eL103 ▸ jg_eq
            refine jx_ld (pc' := 76) (l' := L103) (st' := [.ref 66]) rfl (jl_aloadn gL103_0) ?_
            refine jx_vr (pc' := 79) (as := []) (st := []) rfl rfl rfl rfl ⟨rfl, rfl, Nat.le_of_ble_eq_true rfl⟩ rfl rfl (c_bad (dd := d) (hd := by omega) (hW := hW57)  (fk := fk2_54) (e_fk := show G50 16 = fk2_54 from (e62))    ) (fun o V' hq => ?_)
            obtain ⟨r104, rfl, rfl, b105, q106⟩ := hq
            refine .inr ⟨_, rfl, ?_⟩
            rcases q106 with ⟨rfl, a107⟩ | ⟨rfl, a108⟩
            · have _q : True := trivial
              exfalso
              omega
            · have _q : True := trivial
              refine jx_if_eq (pc' := 82) (tg := 86) rfl rfl rfl (by decide) (by decide) (fun h109 => ?_) (fun h109 => ?_)
              · have _q := h109
                refine jx_ld (pc' := 87) (l' := L103) (st' := [.ref 66]) rfl (jl_aloadn gL103_0) ?_
                refine jx_ld (pc' := 88) (l' := L103) (st' := [.int (i32 (lv)), .ref 66]) rfl (jl_iloadn gL103_1) ?_
                refine jx_ar (pc' := 89) (st' := [.int (i32 (2)), .int (i32 (lv)), .ref 66]) rfl rfl rfl rfl ?_
                refine jx_add (pc' := 90) rfl rfl ?_
                refine jx_vr (pc' := 93) (as := [.int (i32 ((lv + 2)))]) (st := []) rfl rfl rfl rfl ⟨rfl, rfl, Nat.le_of_ble_eq_true rfl⟩ rfl rfl (hP (dd := d) (hd := by omega) (hW := hW57) (lv := (lv + 2)) (at0 := at2_53) (ln := ln2_56) (e_ln := show G50 9 = ln2_56 from (e64)) (li := li) (e_li := show G50 3 = li from ((hF58.1 3 rfl).trans ((hF35.1 3 rfl).trans ((hF7.1 3 rfl).trans ((hFx.1 3 rfl).trans (e_li)))))) (fk := fk2_54) (e_fk := show G50 16 = fk2_54 from (e62)) (nd := nd2_55) (e_nd := show G50 31 = nd2_55 from (e63)) (sy := sy1) (e_sy := show G50 19 = sy1 from ((hF58.1 19 rfl).trans ((hF35.1 19 rfl).trans ((hF7.1 19 rfl).trans (ex_sy1))))) (na := na1) (e_na := show G50 28 = na1 from ((hF58.1 28 rfl).trans ((hF35.1 28 rfl).trans ((hF7.1 28 rfl).trans (ex_na1))))) (vi := vi1) (e_vi := show G50 29 = vi1 from ((hF58.1 29 rfl).trans ((hF35.1 29 rfl).trans ((hF7.1 29 rfl).trans (ex_vi1))))) (lf := A 3 (ln2_56).toNat) (e_lf := show A51 3 (ln2_56).toNat = A 3 (ln2_56).toNat from (congrFun ((hF58.2 3 rfl).trans ((hF35.2 3 rfl).trans ((hF7.2 3 rfl).trans (hFx.2 3 rfl)))) _)) (ac := at2_53) (e_ac := show G50 10 = at2_53 from (e61)) (i_LT := (LT_ext (((hF58.1 3 rfl).trans ((hF35.1 3 rfl).trans ((hF7.1 3 rfl).trans (hFx.1 3 rfl))))) (((hF58.2 3 rfl).trans ((hF35.2 3 rfl).trans ((hF7.2 3 rfl).trans (hFx.2 3 rfl))))) (((hF58.2 4 rfl).trans ((hF35.2 4 rfl).trans ((hF7.2 4 rfl).trans (hFx.2 4 rfl))))) i_LT)) (i_SV := (SV_fx i_SV e_vi (show G50 29 = vi1 from ((hF58.1 29 rfl).trans ((hF35.1 29 rfl).trans ((hF7.1 29 rfl).trans (ex_vi1))))) (by omega) hV74)) (i_PQ := (PQ_fx i_PQ hS73 (by omega) (hF71.2 29 rfl) (hF71.2 30 rfl))) (hvb := hvb) (h_lv := ⟨(by omega), (by omega)⟩)  (p_0 := by omega) (p_1 := by omega) (p_2 := by omega) (p_3 := by omega) (p_4 := by omega) (p_5 := by omega) (p_6 := by omega) (p_7 := by omega) (p_8 := by omega) (p_9 := by omega) (p_10 := by omega)) (fun o V' hq => ?_)
                obtain ⟨G110, A111, r112, ln2_113, at2_114, fk2_115, nd2_116, sy2_117, na2_118, vi2_119, lf2_120, rfl, rfl, hW121, hF122, hQ123, hQ124, hQ125, b126, e127, e128, e129, e130, e131, e132, e133, e134, p135, p136, p137, p138, p139, p140, p141, p142, p143, q144⟩ := hq
                have hF145 := Fr_tr hF71 hF122 (Fr_sub (by decide)) (Fr_sub (by decide))
                have hP146 := Pf_tr hP72 hQ123 (by omega)
                have hS147 := Fx_tr hS73 hQ124 (by omega)
                have hV148 := Fx_tr hV74 hQ125 (by omega)
                have sf149 : ND A111 (n) (32) (0) (0) (0) (0) (Ax 21 (n).toNat) (0) := ND_ag (by omega) (Ag_pf hQ123 (by omega)) sf75
                have sf150 : CL 2 A111 (sy1) pb (k) (Vs) (n) (last) (many) (n + 1) (nd1) (sy) (sy1) := CL_ag (by omega) (by omega) (Fx_su hQ124 (by omega)) (Qg_fr hF122 (by decide)) (Ag_pf hQ123 (by omega)) (hQ123 21 _ rfl (by omega)) sf76
                have sf151 : wU A111 Vs sb (r52) (nd1) (nd2_55) := wU_ag (by omega) (Fx_su hQ124 (by omega)) (Ax_ag (Ag_pf hQ123 (by omega))) a85
                have sf152 : NX A111 (r52) := NX_ag (by omega) (Ag_pf hQ123 (by omega)) a86
                have bln2_113 : (0 : Int) ≤ ln2_113 ∧ ln2_113 ≤ 3000 := e127 ▸ hW121.1 9
                have bat2_114 : (0 : Int) ≤ at2_114 ∧ at2_114 ≤ 3002 := e128 ▸ hW121.1 10
                have bfk2_115 : (0 : Int) ≤ fk2_115 ∧ fk2_115 ≤ 6 := e129 ▸ hW121.1 16
                have bnd2_116 : (0 : Int) ≤ nd2_116 ∧ nd2_116 ≤ 6999 := e130 ▸ hW121.1 31
                have bsy2_117 : (0 : Int) ≤ sy2_117 ∧ sy2_117 ≤ 202 := e131 ▸ hW121.1 19
                have bna2_118 : (0 : Int) ≤ na2_118 ∧ na2_118 ≤ 200 := e132 ▸ hW121.1 28
                have bvi2_119 : (0 : Int) ≤ vi2_119 ∧ vi2_119 ≤ 202 := e133 ▸ hW121.1 29
                have blf2_120 : (0 : Int) ≤ lf2_120 ∧ lf2_120 ≤ 3000 := e134 ▸ hW121.2 3 _
                refine .inr ⟨_, rfl, ?_⟩
                rcases q144 with ⟨a153, a154⟩ | ⟨a155, a156, a157, a158, a159, a160, a161, a162⟩
                · have _q : True := trivial
                  refine jx_ld (pc' := 95) (l' := jSto1 L103 6 (.int (i32 (r112)))) (st' := []) rfl rfl ?_
                  obtain ⟨L163, eL163⟩ : ∃ q, q = jSto1 L103 6 (.int (i32 (r112))) := ⟨_, rfl⟩
                  rw [← eL163]
                  have gL163_0 : jGet L163 0 = some (.ref 66) := eL163 ▸ jg_ne (by decide) gL103_0 rfl
                  have gL163_1 : jGet L163 1 = some (.int (i32 (lv))) := eL163 ▸ jg_ne (by decide) gL103_1 rfl
                  have gL163_2 : jGet L163 2 = some (.int (i32 (n))) := eL163 ▸ jg_ne (by decide) gL103_2 rfl
                  have gL163_3 : jGet L163 3 = some (.int (i32 (last))) := eL163 ▸ jg_ne (by decide) gL103_3 rfl
                  have gL163_4 : jGet L163 4 = some (.int (i32 (many))) := eL163 ▸ jg_ne (by decide) gL103_4 rfl
                  have gL163_5 : jGet L163 5 = some (.int (i32 (r52))) := eL163 ▸ jg_ne (by decide) gL103_5 rfl
                  have gL163_6 : jGet L163 6 = some (.int (i32 (r112))) := eL163 ▸ jg_eq
                  refine jx_ld (pc' := 96) (l' := L163) (st' := [.ref 66]) rfl (jl_aloadn gL163_0) ?_
                  refine jx_vr (pc' := 99) (as := []) (st := []) rfl rfl rfl rfl ⟨rfl, rfl, Nat.le_of_ble_eq_true rfl⟩ rfl rfl (c_bad (dd := d) (hd := by omega) (hW := hW121)  (fk := fk2_115) (e_fk := show G110 16 = fk2_115 from (e129))    ) (fun o V' hq => ?_)
                  obtain ⟨r164, rfl, rfl, b165, q166⟩ := hq
                  refine .inr ⟨_, rfl, ?_⟩
                  rcases q166 with ⟨rfl, a167⟩ | ⟨rfl, a168⟩
                  · have _q : True := trivial
                    refine jx_if_eq (pc' := 102) (tg := 104) rfl rfl rfl (by decide) (by decide) (fun h169 => ?_) (fun h169 => ?_)
                    · have _q := h169
                      exact absurd h169 (by omega)
                    · have _q := h169
                      refine jx_ar (pc' := 103) (st' := [.int (i32 (0))]) rfl rfl rfl rfl ?_
                      refine jx_rt (v := some (.int (i32 (0)))) rfl rfl rfl rfl rfl rfl ?_
                      exact ⟨_, _, _, ln2_113, at2_114, fk2_115, nd2_116, sy2_117, na2_118, vi2_119, lf2_120, rfl, rfl, hW121, hF145, hP146, hS147, hV148, by omega, (e127), (e128), (e129), (e130), (e131), (e132), (e133), (e134), by omega, by omega, by omega, by omega, by omega, by omega, by omega, by omega, by omega, by omega, by first | exact Or.inl (⟨by omega, by omega⟩)⟩
                  · have _q : True := trivial
                    exfalso
                    omega
                · have _q : True := trivial
                  refine jx_ld (pc' := 95) (l' := jSto1 L103 6 (.int (i32 (r112)))) (st' := []) rfl rfl ?_
                  obtain ⟨L170, eL170⟩ : ∃ q, q = jSto1 L103 6 (.int (i32 (r112))) := ⟨_, rfl⟩
                  rw [← eL170]
                  have gL170_0 : jGet L170 0 = some (.ref 66) := eL170 ▸ jg_ne (by decide) gL103_0 rfl
                  have gL170_1 : jGet L170 1 = some (.int (i32 (lv))) := eL170 ▸ jg_ne (by decide) gL103_1 rfl
                  have gL170_2 : jGet L170 2 = some (.int (i32 (n))) := eL170 ▸ jg_ne (by decide) gL103_2 rfl
                  have gL170_3 : jGet L170 3 = some (.int (i32 (last))) := eL170 ▸ jg_ne (by decide) gL103_3 rfl
                  have gL170_4 : jGet L170 4 = some (.int (i32 (many))) := eL170 ▸ jg_ne (by decide) gL103_4 rfl
                  have gL170_5 : jGet L170 5 = some (.int (i32 (r52))) := eL170 ▸ jg_ne (by decide) gL103_5 rfl
                  have gL170_6 : jGet L170 6 = some (.int (i32 (r112))) := eL170 ▸ jg_eq
                  refine jx_ld (pc' := 96) (l' := L170) (st' := [.ref 66]) rfl (jl_aloadn gL170_0) ?_
                  refine jx_vr (pc' := 99) (as := []) (st := []) rfl rfl rfl rfl ⟨rfl, rfl, Nat.le_of_ble_eq_true rfl⟩ rfl rfl (c_bad (dd := d) (hd := by omega) (hW := hW121)  (fk := fk2_115) (e_fk := show G110 16 = fk2_115 from (e129))    ) (fun o V' hq => ?_)
                  obtain ⟨r171, rfl, rfl, b172, q173⟩ := hq
                  refine .inr ⟨_, rfl, ?_⟩
                  rcases q173 with ⟨rfl, a174⟩ | ⟨rfl, a175⟩
                  · have _q : True := trivial
                    exfalso
                    omega
                  · have _q : True := trivial
                    refine jx_if_eq (pc' := 102) (tg := 104) rfl rfl rfl (by decide) (by decide) (fun h176 => ?_) (fun h176 => ?_)
                    · have _q := h176
                      refine jx_ld (pc' := 105) (l' := L170) (st' := [.ref 66]) rfl (jl_aloadn gL170_0) ?_
                      refine jr_get (pc' := 108) (i := 38) (v := .ref 88) rfl rfl (by decide) rfl rfl ?_
                      refine jx_ld (pc' := 110) (l' := L170) (st' := [.int (i32 (r52)), .ref 88]) rfl (jl_iload gL170_5) ?_
                      refine jx_ld (pc' := 112) (l' := L170) (st' := [.int (i32 (r112)), .int (i32 (r52)), .ref 88]) rfl (jl_iload gL170_6) ?_
                      refine jr_st (pc' := 113) (i := 21) (m := 7000) (z := r52) (y := r112) rfl (by decide) rfl (by decide) (by omega) (by omega) rfl ?_
                      have hW178 : Wk G110 (uA A111 21 (r52).toNat (r112)) := Wk_a hW121 (show (-2147483648 : Int) ≤ r112 by omega) (show r112 ≤ (2147483647 : Int) by omega)
                      have hF179 := Fr_a (z := r112) (k := 21) (n := (r52).toNat) hF145 (by decide)
                      obtain ⟨A177, eA177⟩ : ∃ q, q = uA A111 21 (r52).toNat (r112) := ⟨_, rfl⟩
                      rw [← eA177]
                      rw [← eA177] at hW178 hF179
                      have q180 : A177 21 (r52).toNat = r112 := by rw [eA177]; exact uA_eq
                      have hP181 : Pf nd A A177 := eA177 ▸ Pf_a hP146 (z := r52) (by omega) (by omega)
                      have hS182 : Fx sr (sy) A A177 := eA177 ▸ Fx_n hS147 rfl
                      have hV183 : Fx [14] (vi) A A177 := eA177 ▸ Fx_n hV148 rfl
                      have sf184 : ND A177 (n) (32) (0) (0) (0) (0) (Ax 21 (n).toNat) (0) := ND_ag (by omega) (Ag_st eA177 (by omega) (by omega)) sf149
                      have sf185 : CL 2 A177 (sy1) pb (k) (Vs) (n) (last) (many) (n + 1) (nd1) (sy) (sy1) := CL_ag (by omega) (by omega) (Sg_ne eA177 rfl) (Qg_ne eA177 rfl) (Ag_st eA177 (by omega) (by omega)) ((by rw [eA177]; exact uA_ni (by omega))) sf150
                      have sf186 : wU A177 Vs sb (r52) (nd1) (nd2_55) := wU_f eA177 (by omega) sf151
                      have sf187 : NX A177 (r52) := NX_r eA177 (by decide) sf152
                      have sf188 : wP A177 (sy2_117) pb (k) (Vs) (r112) (nd2_55) (nd2_116) (sy1) (sy2_117) := wP_ag (Sg_ne eA177 rfl) (Qg_ne eA177 rfl) (by omega) (by omega) (Ax_ag (Ag_st eA177 (by omega) (by omega))) a161
                      have sf189 : NX A177 (r112) := NX_r eA177 (by decide) a162
                      refine jx_ld (pc' := 114) (l' := L170) (st' := [.ref 66]) rfl (jl_aloadn gL170_0) ?_
                      refine jx_ld (pc' := 115) (l' := L170) (st' := [.int (i32 (n)), .ref 66]) rfl (jl_iloadn gL170_2) ?_
                      refine jx_ld (pc' := 116) (l' := L170) (st' := [.int (i32 (last)), .int (i32 (n)), .ref 66]) rfl (jl_iloadn gL170_3) ?_
                      refine jx_ld (pc' := 118) (l' := L170) (st' := [.int (i32 (r52)), .int (i32 (last)), .int (i32 (n)), .ref 66]) rfl (jl_iload gL170_5) ?_
                      refine jx_vr (pc' := 121) (as := [.int (i32 (n)), .int (i32 (last)), .int (i32 (r52))]) (st := []) rfl rfl rfl rfl ⟨rfl, rfl, Nat.le_of_ble_eq_true rfl⟩ rfl rfl (c_addTo (dd := d) (zz := nd) (hd := by omega) (hW := hW178) (n := n) (last := last) (one := r52)   (h_n := ⟨(Int.le_trans (by decide : (-2147483648 : Int) ≤ -2147483648) rx_n.1), (Int.le_trans rx_n.2 (by decide : (2147483647 : Int) ≤ 2147483647))⟩) (h_last := ⟨(Int.le_trans (by decide : (-2147483648 : Int) ≤ -2147483648) rx_last.1), (Int.le_trans rx_last.2 (by decide : (2147483647 : Int) ≤ 2147483647))⟩) (h_one := ⟨(Int.le_trans (by decide : (-2147483648 : Int) ≤ -2147483648) b60.1), (Int.le_trans b60.2 (by decide : (2147483647 : Int) ≤ 2147483647))⟩)  (p_0 := by omega) (p_1 := by omega) (p_2 := by omega) (p_3 := by omega)) (fun o V' hq => ?_)
                      obtain ⟨G190, A191, rfl, rfl, hW192, hF193, hQ194, q195⟩ := hq
                      have hF196 := Fr_tr hF179 hF193 (Fr_sub (by decide)) (Fr_sub (by decide))
                      have hP197 := Pf_tr hP181 hQ194 (by omega)
                      have hS198 := Fx_f hS182 hF193 (by decide)
                      have hV199 := Fx_f hV183 hF193 (by decide)
                      refine .inl ⟨rfl, ?_⟩
                      rcases q195 with ⟨a200, a201⟩ | ⟨a202, a203⟩
                      · have _q : True := trivial
                        have sf204 : ND A191 (n) (32) (0) (0) (0) (0) (r52) (0) := ND_f a201 sf184
                        have sf205 : CL 2 A191 (sy2_117) pb (k) (Vs) (n) (r52) (many + 1) (n + 1) (nd2_116) (sy) (sy2_117) := CL_one a201 (by omega) (by omega) (by omega) (by omega) (by omega) (by omega) (show RQ 2 A177 (sy2_117) pb (k) (Vs) (r52) (nd1) (nd2_116) (sy1) (sy2_117) from wG_mk (m := nd2_55) (wU_sb (by omega) (wU_eq sf186 (by omega) (by omega))) (show A177 21 (r52).toNat = r112 from (q180)) (by omega) (by omega) (wP_eq sf188 (by omega) rfl rfl (by omega) rfl (by omega) rfl (by omega))) sf187 (CL_sb (by omega) sf185)
                        have sf206 : wU A191 Vs sb (r52) (nd1) (nd2_55) := wU_ag (by omega) (Sg_ne a201 rfl) (Ax_ag (Ag_st a201 (by omega) (by omega))) sf186
                        have sf207 : NX A191 (r52) := NX_r a201 (by decide) sf187
                        have sf208 : wP A191 (sy2_117) pb (k) (Vs) (r112) (nd2_55) (nd2_116) (sy1) (sy2_117) := wP_ag (Sg_ne a201 rfl) (Qg_ne a201 rfl) (by omega) (by omega) (Ax_ag (Ag_st a201 (by omega) (by omega))) sf188
                        have sf209 : NX A191 (r112) := NX_r a201 (by decide) sf189
                        refine jx_ld (pc' := 123) (l' := L170) (st' := [.int (i32 (r52))]) rfl (jl_iload gL170_5) ?_
                        refine jx_ld (pc' := 124) (l' := jSto1 L170 3 (.int (i32 (r52)))) (st' := []) rfl rfl ?_
                        obtain ⟨L210, eL210⟩ : ∃ q, q = jSto1 L170 3 (.int (i32 (r52))) := ⟨_, rfl⟩
                        rw [← eL210]
                        have gL210_0 : jGet L210 0 = some (.ref 66) := eL210 ▸ jg_ne (by decide) gL170_0 rfl
                        have gL210_1 : jGet L210 1 = some (.int (i32 (lv))) := eL210 ▸ jg_ne (by decide) gL170_1 rfl
                        have gL210_2 : jGet L210 2 = some (.int (i32 (n))) := eL210 ▸ jg_ne (by decide) gL170_2 rfl
                        have gL210_4 : jGet L210 4 = some (.int (i32 (many))) := eL210 ▸ jg_ne (by decide) gL170_4 rfl
                        have gL210_5 : jGet L210 5 = some (.int (i32 (r52))) := eL210 ▸ jg_ne (by decide) gL170_5 rfl
                        have gL210_6 : jGet L210 6 = some (.int (i32 (r112))) := eL210 ▸ jg_ne (by decide) gL170_6 rfl
                        have gL210_3 : jGet L210 3 = some (.int (i32 (r52))) := eL210 ▸ jg_eq
                        refine jx_inc (pc' := 127) (l' := jSto1 L210 4 (.int (i32 ((many + (1)))))) (x := many) rfl gL210_4 (by decide) rfl rfl ?_
                        obtain ⟨L211, eL211⟩ : ∃ q, q = jSto1 L210 4 (.int (i32 ((many + (1))))) := ⟨_, rfl⟩
                        rw [← eL211]
                        have gL211_0 : jGet L211 0 = some (.ref 66) := eL211 ▸ jg_ne (by decide) gL210_0 rfl
                        have gL211_1 : jGet L211 1 = some (.int (i32 (lv))) := eL211 ▸ jg_ne (by decide) gL210_1 rfl
                        have gL211_2 : jGet L211 2 = some (.int (i32 (n))) := eL211 ▸ jg_ne (by decide) gL210_2 rfl
                        have gL211_5 : jGet L211 5 = some (.int (i32 (r52))) := eL211 ▸ jg_ne (by decide) gL210_5 rfl
                        have gL211_6 : jGet L211 6 = some (.int (i32 (r112))) := eL211 ▸ jg_ne (by decide) gL210_6 rfl
                        have gL211_3 : jGet L211 3 = some (.int (i32 (r52))) := eL211 ▸ jg_ne (by decide) gL210_3 rfl
                        have gL211_4 : jGet L211 4 = some (.int (i32 ((many + (1))))) := eL211 ▸ jg_eq
                        refine jx_go (tg := 24) rfl rfl ?_
                        exact ih24 _ (by omega) L211 G190 A191 (n) (r52) ((many + (1))) (ln2_113) (at2_114) (fk2_115) (nd2_116) (sy2_117) (na2_118) (vi2_119) (lf2_120) rfl gL211_0 gL211_1 gL211_2 gL211_3 gL211_4 hW192 hF196 hP197 hS198 hV199 (((hF193.1 9 rfl).trans (e127))) (((hF193.1 10 rfl).trans (e128))) (((hF193.1 16 rfl).trans (e129))) (((hF193.1 31 rfl).trans (e130))) (((hF193.1 19 rfl).trans (e131))) (((hF193.1 28 rfl).trans (e132))) (((hF193.1 29 rfl).trans (e133))) ((congrFun ((hF193.2 3 rfl).trans ((congrFun eA177 3).trans (uA_ne (by decide)))) _).trans (e134)) (by omega) (by omega) (by omega) (by omega) (by omega) (by omega) (by omega) (by omega) (by omega) (by omega) (by omega) (by omega) (by omega) (by omega) (by omega) (by omega) (by omega) (by omega) ((ND_sf sf204)) ((CL_eq (CL_sb (by omega) sf205) (by omega) (by omega) (by omega) (by omega) (by omega) (by omega)))
                      · have _q : True := trivial
                        have sf212 : ND A191 (n) (32) (0) (0) (0) (0) (Ax 21 (n).toNat) (0) := ND_ag (by omega) (Ag_st a203 (by omega) (by omega)) sf184
                        have sf213 : CL 2 A191 (sy2_117) pb (k) (Vs) (n) (r52) (many + 1) (n + 1) (nd2_116) (sy) (sy2_117) := CL_two a203 (by omega) (by omega) (by omega) (by omega) (by omega) (show RQ 2 A177 (sy2_117) pb (k) (Vs) (r52) (nd1) (nd2_116) (sy1) (sy2_117) from wG_mk (m := nd2_55) (wU_sb (by omega) (wU_eq sf186 (by omega) (by omega))) (show A177 21 (r52).toNat = r112 from (q180)) (by omega) (by omega) (wP_eq sf188 (by omega) rfl rfl (by omega) rfl (by omega) rfl (by omega))) sf187 (CL_sb (by omega) sf185)
                        have sf214 : wU A191 Vs sb (r52) (nd1) (nd2_55) := wU_ag (by omega) (Sg_ne a203 rfl) (Ax_ag (Ag_st a203 (by omega) (by omega))) sf186
                        have sf215 : NX A191 (r52) := NX_ag (by omega) (Ag_st a203 (by omega) (by omega)) sf187
                        have sf216 : wP A191 (sy2_117) pb (k) (Vs) (r112) (nd2_55) (nd2_116) (sy1) (sy2_117) := wP_ag (Sg_ne a203 rfl) (Qg_ne a203 rfl) (by omega) (by omega) (Ax_ag (Ag_st a203 (by omega) (by omega))) sf188
                        have sf217 : NX A191 (r112) := NX_ag (by omega) (Ag_st a203 (by omega) (by omega)) sf189
                        refine jx_ld (pc' := 123) (l' := L170) (st' := [.int (i32 (r52))]) rfl (jl_iload gL170_5) ?_
                        refine jx_ld (pc' := 124) (l' := jSto1 L170 3 (.int (i32 (r52)))) (st' := []) rfl rfl ?_
                        obtain ⟨L218, eL218⟩ : ∃ q, q = jSto1 L170 3 (.int (i32 (r52))) := ⟨_, rfl⟩
                        rw [← eL218]
                        have gL218_0 : jGet L218 0 = some (.ref 66) := eL218 ▸ jg_ne (by decide) gL170_0 rfl
                        have gL218_1 : jGet L218 1 = some (.int (i32 (lv))) := eL218 ▸ jg_ne (by decide) gL170_1 rfl
                        have gL218_2 : jGet L218 2 = some (.int (i32 (n))) := eL218 ▸ jg_ne (by decide) gL170_2 rfl
                        have gL218_4 : jGet L218 4 = some (.int (i32 (many))) := eL218 ▸ jg_ne (by decide) gL170_4 rfl
                        have gL218_5 : jGet L218 5 = some (.int (i32 (r52))) := eL218 ▸ jg_ne (by decide) gL170_5 rfl
                        have gL218_6 : jGet L218 6 = some (.int (i32 (r112))) := eL218 ▸ jg_ne (by decide) gL170_6 rfl
                        have gL218_3 : jGet L218 3 = some (.int (i32 (r52))) := eL218 ▸ jg_eq
                        refine jx_inc (pc' := 127) (l' := jSto1 L218 4 (.int (i32 ((many + (1)))))) (x := many) rfl gL218_4 (by decide) rfl rfl ?_
                        obtain ⟨L219, eL219⟩ : ∃ q, q = jSto1 L218 4 (.int (i32 ((many + (1))))) := ⟨_, rfl⟩
                        rw [← eL219]
                        have gL219_0 : jGet L219 0 = some (.ref 66) := eL219 ▸ jg_ne (by decide) gL218_0 rfl
                        have gL219_1 : jGet L219 1 = some (.int (i32 (lv))) := eL219 ▸ jg_ne (by decide) gL218_1 rfl
                        have gL219_2 : jGet L219 2 = some (.int (i32 (n))) := eL219 ▸ jg_ne (by decide) gL218_2 rfl
                        have gL219_5 : jGet L219 5 = some (.int (i32 (r52))) := eL219 ▸ jg_ne (by decide) gL218_5 rfl
                        have gL219_6 : jGet L219 6 = some (.int (i32 (r112))) := eL219 ▸ jg_ne (by decide) gL218_6 rfl
                        have gL219_3 : jGet L219 3 = some (.int (i32 (r52))) := eL219 ▸ jg_ne (by decide) gL218_3 rfl
                        have gL219_4 : jGet L219 4 = some (.int (i32 ((many + (1))))) := eL219 ▸ jg_eq
                        refine jx_go (tg := 24) rfl rfl ?_
                        exact ih24 _ (by omega) L219 G190 A191 (n) (r52) ((many + (1))) (ln2_113) (at2_114) (fk2_115) (nd2_116) (sy2_117) (na2_118) (vi2_119) (lf2_120) rfl gL219_0 gL219_1 gL219_2 gL219_3 gL219_4 hW192 hF196 hP197 hS198 hV199 (((hF193.1 9 rfl).trans (e127))) (((hF193.1 10 rfl).trans (e128))) (((hF193.1 16 rfl).trans (e129))) (((hF193.1 31 rfl).trans (e130))) (((hF193.1 19 rfl).trans (e131))) (((hF193.1 28 rfl).trans (e132))) (((hF193.1 29 rfl).trans (e133))) ((congrFun ((hF193.2 3 rfl).trans ((congrFun eA177 3).trans (uA_ne (by decide)))) _).trans (e134)) (by omega) (by omega) (by omega) (by omega) (by omega) (by omega) (by omega) (by omega) (by omega) (by omega) (by omega) (by omega) (by omega) (by omega) (by omega) (by omega) (by omega) (by omega) ((ND_sf sf212)) ((CL_eq (CL_sb (by omega) sf213) (by omega) (by omega) (by omega) (by omega) (by omega) (by omega)))
                    · have _q := h176
                      exact absurd h176 (by omega)
              · have _q := h109
                exact absurd h109 (by omega)
        · have _q := h28
          refine jx_ld (pc' := 40) (l' := L) (st' := [.ref 66]) rfl (jl_aloadn gL_0) ?_
          refine jx_ar (pc' := 41) (st' := [.int (i32 (1)), .ref 66]) rfl rfl rfl rfl ?_
          refine jx_ld (pc' := 42) (l' := L) (st' := [.ref 66, .int (i32 (1)), .ref 66]) rfl (jl_aloadn gL_0) ?_
          refine jr_get (pc' := 45) (i := 6) (v := .ref 70) rfl rfl (by decide) rfl rfl ?_
          refine jx_ld (pc' := 46) (l' := L) (st' := [.ref 66, .ref 70, .int (i32 (1)), .ref 66]) rfl (jl_aloadn gL_0) ?_
          refine jr_get (pc' := 49) (i := 9) (v := .int (i32 (ln1))) rfl rfl (by decide) (rFv_eq (by decide) (show G2 9 = ln1 from ((hF7.1 9 rfl).trans (ex_ln1)))) rfl ?_
          refine jr_ldv (pc' := 50) (i := 3) (m := 3001) (z := ln1) (y := lf1) rfl (by decide) rfl (by decide) (Int.le_trans (by decide : (0 : Int) ≤ 0) b_ln1.1) (Int.lt_of_le_of_lt b_ln1.2 (by decide : (3000 : Int) < ((3001 : Nat) : Int))) rfl (show A3 3 (ln1).toNat = lf1 from (congrFun (hF7.2 3 rfl) _).trans (ex_lf1)) ?_
          refine jx_ld (pc' := 51) (l' := L) (st' := [.ref 66, .int (i32 (lf1)), .int (i32 (1)), .ref 66]) rfl (jl_aloadn gL_0) ?_
          refine jr_get (pc' := 54) (i := 5) (v := .ref 69) rfl rfl (by decide) rfl rfl ?_
          refine jx_ld (pc' := 55) (l' := L) (st' := [.ref 66, .ref 69, .int (i32 (lf1)), .int (i32 (1)), .ref 66]) rfl (jl_aloadn gL_0) ?_
          refine jr_get (pc' := 58) (i := 9) (v := .int (i32 (ln1))) rfl rfl (by decide) (rFv_eq (by decide) (show G2 9 = ln1 from ((hF7.1 9 rfl).trans (ex_ln1)))) rfl ?_
          have b220 : (0 : Int) ≤ A 2 (ln1).toNat ∧ A 2 (ln1).toNat ≤ 3000 := hW.2 2 _
          refine jr_ldv (pc' := 59) (i := 2) (m := 3001) (z := ln1) (y := A 2 (ln1).toNat) rfl (by decide) rfl (by decide) (Int.le_trans (by decide : (0 : Int) ≤ 0) b_ln1.1) (Int.lt_of_le_of_lt b_ln1.2 (by decide : (3000 : Int) < ((3001 : Nat) : Int))) rfl (show A3 2 (ln1).toNat = A 2 (ln1).toNat from (congrFun ((hF7.2 2 rfl).trans (hFx.2 2 rfl)) _)) ?_
          refine jx_sub (pc' := 60) rfl rfl ?_
          refine jx_vr (pc' := 63) (as := [.int (i32 (1)), .int (i32 ((lf1 - A 2 (ln1).toNat)))]) (st := []) rfl rfl rfl rfl ⟨rfl, rfl, Nat.le_of_ble_eq_true rfl⟩ rfl rfl (c_fail (dd := d) (hd := by omega) (hW := hW6) (kind := 1) (place := (lf1 - A 2 (ln1).toNat)) (fk := fk2_5) (e_fk := show G2 16 = fk2_5 from (e9))  (h_kind := ⟨(by decide), (by decide)⟩) (h_place := ⟨(by omega), (by omega)⟩)  (p_0 := by omega) (p_1 := by omega)) (fun o V' hq => ?_)
          obtain ⟨G221, A222, fk2_223, rfl, rfl, hW224, hF225, e226, p227, -⟩ := hq
          have hF229 := Fr_tr hF11 hF225 (Fr_sub (by decide)) (Fr_sub (by decide))
          have hP230 := Pf_f hP12 hF225 (by decide)
          have hS231 := Fx_f hS13 hF225 (by decide)
          have hV232 := Fx_f hV14 hF225 (by decide)
          have sf233 : ND A222 (n) (32) (0) (0) (0) (0) (Ax 21 (n).toNat) (0) := ND_ag (by omega) (Ag_fr hF225 (by decide)) sf15
          have sf234 : CL 2 A222 (sy1) pb (k) (Vs) (n) (last) (many) (n + 1) (nd1) (sy) (sy1) := CL_ag (by omega) (by omega) (Sg_fr hF225 (by decide)) (Qg_fr hF225 (by decide)) (Ag_fr hF225 (by decide)) (congrFun (hF225.2 21 rfl) _) sf16
          have bfk2_223 : (0 : Int) ≤ fk2_223 ∧ fk2_223 ≤ 6 := e226 ▸ hW224.1 16
          refine .inl ⟨rfl, ?_⟩
          refine jx_ar (pc' := 64) (st' := [.int (i32 (0))]) rfl rfl rfl rfl ?_
          refine jx_rt (v := some (.int (i32 (0)))) rfl rfl rfl rfl rfl rfl ?_
          exact ⟨_, _, _, ln1, at1, fk2_223, nd1, sy1, na1, vi1, lf1, rfl, rfl, hW224, hF229, hP230, hS231, hV232, by omega, ((hF225.1 9 rfl).trans ((hF7.1 9 rfl).trans (ex_ln1))), ((hF225.1 10 rfl).trans ((hF7.1 10 rfl).trans (ex_at1))), (e226), ((hF225.1 31 rfl).trans ((hF7.1 31 rfl).trans (ex_nd1))), ((hF225.1 19 rfl).trans ((hF7.1 19 rfl).trans (ex_sy1))), ((hF225.1 28 rfl).trans ((hF7.1 28 rfl).trans (ex_na1))), ((hF225.1 29 rfl).trans ((hF7.1 29 rfl).trans (ex_vi1))), (congrFun ((hF225.2 3 rfl).trans (hF7.2 3 rfl)) _).trans (ex_lf1), by omega, by omega, by omega, by omega, by omega, by omega, by omega, by omega, by omega, by omega, by first | exact Or.inl (⟨by omega, by omega⟩)⟩
    · have _q : True := trivial
      refine jx_if_eq (pc' := 32) (tg := 130) rfl rfl rfl (by decide) (by decide) (fun h235 => ?_) (fun h235 => ?_)
      · have _q := h235
        refine jx_ld (pc' := 131) (l' := L) (st' := [.ref 66]) rfl (jl_aloadn gL_0) ?_
        refine jx_vr (pc' := 134) (as := []) (st := []) rfl rfl rfl rfl ⟨rfl, rfl, Nat.le_of_ble_eq_true rfl⟩ rfl rfl (c_bad (dd := d) (hd := by omega) (hW := hW6)  (fk := fk2_5) (e_fk := show G2 16 = fk2_5 from (e9))    ) (fun o V' hq => ?_)
        obtain ⟨r236, rfl, rfl, b237, q238⟩ := hq
        refine .inr ⟨_, rfl, ?_⟩
        rcases q238 with ⟨rfl, a239⟩ | ⟨rfl, a240⟩
        · have _q : True := trivial
          refine jx_if_ne (pc' := 137) (tg := 150) rfl rfl rfl (by decide) (by decide) (fun h241 => ?_) (fun h241 => ?_)
          · have _q := h241
            refine jx_ld (pc' := 151) (l' := L) (st' := [.ref 66]) rfl (jl_aloadn gL_0) ?_
            refine jr_get (pc' := 154) (i := 35) (v := .ref 85) rfl rfl (by decide) rfl rfl ?_
            refine jx_ld (pc' := 155) (l' := L) (st' := [.int (i32 (n)), .ref 85]) rfl (jl_iloadn gL_2) ?_
            refine jx_ld (pc' := 157) (l' := L) (st' := [.int (i32 (many)), .int (i32 (n)), .ref 85]) rfl (jl_iload gL_4) ?_
            refine jr_st (pc' := 158) (i := 18) (m := 7000) (z := n) (y := many) rfl (by decide) rfl (by decide) (by omega) (by omega) rfl ?_
            have hW243 : Wk G2 (uA A3 18 (n).toNat (many)) := Wk_a hW6 (show (-2147483648 : Int) ≤ many by omega) (show many ≤ (2147483647 : Int) by omega)
            have hF244 := Fr_a (z := many) (k := 18) (n := (n).toNat) hF11 (by decide)
            obtain ⟨A242, eA242⟩ : ∃ q, q = uA A3 18 (n).toNat (many) := ⟨_, rfl⟩
            rw [← eA242]
            rw [← eA242] at hW243 hF244
            have q245 : A242 18 (n).toNat = many := by rw [eA242]; exact uA_eq
            have hP246 : Pf nd A A242 := eA242 ▸ Pf_a hP12 (z := n) (by omega) (by omega)
            have hS247 : Fx sr (sy) A A242 := eA242 ▸ Fx_n hS13 rfl
            have hV248 : Fx [14] (vi) A A242 := eA242 ▸ Fx_n hV14 rfl
            have sf249 : ND A242 (n) (32) (0) (many) (0) (0) (Ax 21 (n).toNat) (0) := ND_b eA242 sf15
            have sf250 : CL 2 A242 (sy1) pb (k) (Vs) (n) (last) (many) (n + 1) (nd1) (sy) (sy1) := CL_ag (by omega) (by omega) (Sg_ne eA242 rfl) (Qg_ne eA242 rfl) (Ag_st eA242 (by omega) (by omega)) ((congrFun ((congrFun eA242 21).trans (uA_ne (by decide))) _)) sf16
            refine jx_ld (pc' := 159) (l' := L) (st' := [.int (i32 (n))]) rfl (jl_iloadn gL_2) ?_
            refine jx_rt (v := some (.int (i32 (n)))) rfl rfl rfl rfl rfl rfl ?_
            exact ⟨_, _, _, ln1, at1, fk2_5, nd1, sy1, na1, vi1, lf1, rfl, rfl, hW243, hF244, hP246, hS247, hV248, by omega, ((hF7.1 9 rfl).trans (ex_ln1)), ((hF7.1 10 rfl).trans (ex_at1)), (e9), ((hF7.1 31 rfl).trans (ex_nd1)), ((hF7.1 19 rfl).trans (ex_sy1)), ((hF7.1 28 rfl).trans (ex_na1)), ((hF7.1 29 rfl).trans (ex_vi1)), (congrFun (((congrFun eA242 3).trans (uA_ne (by decide))).trans (hF7.2 3 rfl)) _).trans (ex_lf1), by omega, by omega, by omega, by omega, by omega, by omega, by omega, by omega, by omega, by omega, by first | exact Or.inl (⟨by omega, by omega⟩)⟩
          · have _q := h241
            exact absurd h241 (by omega)
        · have _q : True := trivial
          exfalso
          omega
      · have _q := h235
        exact absurd h235 (by omega)
    · have _q : True := trivial
      refine jx_if_eq (pc' := 32) (tg := 130) rfl rfl rfl (by decide) (by decide) (fun h251 => ?_) (fun h251 => ?_)
      · have _q := h251
        refine jx_ld (pc' := 131) (l' := L) (st' := [.ref 66]) rfl (jl_aloadn gL_0) ?_
        refine jx_vr (pc' := 134) (as := []) (st := []) rfl rfl rfl rfl ⟨rfl, rfl, Nat.le_of_ble_eq_true rfl⟩ rfl rfl (c_bad (dd := d) (hd := by omega) (hW := hW6)  (fk := fk2_5) (e_fk := show G2 16 = fk2_5 from (e9))    ) (fun o V' hq => ?_)
        obtain ⟨r252, rfl, rfl, b253, q254⟩ := hq
        refine .inr ⟨_, rfl, ?_⟩
        rcases q254 with ⟨rfl, a255⟩ | ⟨rfl, a256⟩
        · have _q : True := trivial
          exfalso
          omega
        · have _q : True := trivial
          refine jx_if_ne (pc' := 137) (tg := 150) rfl rfl rfl (by decide) (by decide) (fun h257 => ?_) (fun h257 => ?_)
          · have _q := h257
            exact absurd h257 (by omega)
          · have _q := h257
            refine jx_ld (pc' := 139) (l' := L) (st' := [.int (i32 (many))]) rfl (jl_iload gL_4) ?_
            refine jx_if_ne (pc' := 142) (tg := 150) rfl rfl rfl (Int.le_trans (by decide : (-2147483648 : Int) ≤ -2147483648) rx_many.1) (Int.le_trans rx_many.2 (by decide : (2147483647 : Int) ≤ 2147483647)) (fun h258 => ?_) (fun h258 => ?_)
            · have _q := h258
              refine jx_ld (pc' := 151) (l' := L) (st' := [.ref 66]) rfl (jl_aloadn gL_0) ?_
              refine jr_get (pc' := 154) (i := 35) (v := .ref 85) rfl rfl (by decide) rfl rfl ?_
              refine jx_ld (pc' := 155) (l' := L) (st' := [.int (i32 (n)), .ref 85]) rfl (jl_iloadn gL_2) ?_
              refine jx_ld (pc' := 157) (l' := L) (st' := [.int (i32 (many)), .int (i32 (n)), .ref 85]) rfl (jl_iload gL_4) ?_
              refine jr_st (pc' := 158) (i := 18) (m := 7000) (z := n) (y := many) rfl (by decide) rfl (by decide) (by omega) (by omega) rfl ?_
              have hW260 : Wk G2 (uA A3 18 (n).toNat (many)) := Wk_a hW6 (show (-2147483648 : Int) ≤ many by omega) (show many ≤ (2147483647 : Int) by omega)
              have hF261 := Fr_a (z := many) (k := 18) (n := (n).toNat) hF11 (by decide)
              obtain ⟨A259, eA259⟩ : ∃ q, q = uA A3 18 (n).toNat (many) := ⟨_, rfl⟩
              rw [← eA259]
              rw [← eA259] at hW260 hF261
              have q262 : A259 18 (n).toNat = many := by rw [eA259]; exact uA_eq
              have hP263 : Pf nd A A259 := eA259 ▸ Pf_a hP12 (z := n) (by omega) (by omega)
              have hS264 : Fx sr (sy) A A259 := eA259 ▸ Fx_n hS13 rfl
              have hV265 : Fx [14] (vi) A A259 := eA259 ▸ Fx_n hV14 rfl
              have sf266 : ND A259 (n) (32) (0) (many) (0) (0) (Ax 21 (n).toNat) (0) := ND_b eA259 sf15
              have sf267 : CL 2 A259 (sy1) pb (k) (Vs) (n) (last) (many) (n + 1) (nd1) (sy) (sy1) := CL_ag (by omega) (by omega) (Sg_ne eA259 rfl) (Qg_ne eA259 rfl) (Ag_st eA259 (by omega) (by omega)) ((congrFun ((congrFun eA259 21).trans (uA_ne (by decide))) _)) sf16
              refine jx_ld (pc' := 159) (l' := L) (st' := [.int (i32 (n))]) rfl (jl_iloadn gL_2) ?_
              refine jx_rt (v := some (.int (i32 (n)))) rfl rfl rfl rfl rfl rfl ?_
              exact ⟨_, _, _, ln1, at1, fk2_5, nd1, sy1, na1, vi1, lf1, rfl, rfl, hW260, hF261, hP263, hS264, hV265, by omega, ((hF7.1 9 rfl).trans (ex_ln1)), ((hF7.1 10 rfl).trans (ex_at1)), (e9), ((hF7.1 31 rfl).trans (ex_nd1)), ((hF7.1 19 rfl).trans (ex_sy1)), ((hF7.1 28 rfl).trans (ex_na1)), ((hF7.1 29 rfl).trans (ex_vi1)), (congrFun (((congrFun eA259 3).trans (uA_ne (by decide))).trans (hF7.2 3 rfl)) _).trans (ex_lf1), by omega, by omega, by omega, by omega, by omega, by omega, by omega, by omega, by omega, by omega, by first | exact Or.inr ((⟨by omega, by omega, by omega, by omega, by omega, by omega, by omega, (wS_alt sf266 (RL_eq (RL_cl sf267) (by omega) (by omega) (by omega) (by omega) (by omega)) (by omega) (by omega)), (NX_nd sf266)⟩))⟩
            · have _q := h258
              refine jx_ld (pc' := 143) (l' := L) (st' := [.ref 66]) rfl (jl_aloadn gL_0) ?_
              refine jx_ld (pc' := 144) (l' := L) (st' := [.int (i32 (lv)), .ref 66]) rfl (jl_iloadn gL_1) ?_
              refine jx_ar (pc' := 145) (st' := [.int (i32 (1)), .int (i32 (lv)), .ref 66]) rfl rfl rfl rfl ?_
              refine jx_add (pc' := 146) rfl rfl ?_
              refine jx_vr (pc' := 149) (as := [.int (i32 ((lv + 1)))]) (st := []) rfl rfl rfl rfl ⟨rfl, rfl, Nat.le_of_ble_eq_true rfl⟩ rfl rfl (c_needLevel (dd := d) (hd := by omega) (hW := hW6) (lv := (lv + 1)) (ln := ln1) (e_ln := show G2 9 = ln1 from ((hF7.1 9 rfl).trans (ex_ln1))) (li := li) (e_li := show G2 3 = li from ((hF7.1 3 rfl).trans ((hFx.1 3 rfl).trans (e_li)))) (fk := fk2_5) (e_fk := show G2 16 = fk2_5 from (e9)) (ll := A 5 (ln1).toNat) (e_ll := show A3 5 (ln1).toNat = A 5 (ln1).toNat from (congrFun ((hF7.2 5 rfl).trans (hFx.2 5 rfl)) _))  (h_lv := ⟨(by omega), (by omega)⟩)  ) (fun o V' hq => ?_)
              obtain ⟨G268, A269, r270, fk2_271, rfl, rfl, hW272, hF273, b274, e275, q276⟩ := hq
              have hF277 := Fr_tr hF11 hF273 (Fr_sub (by decide)) (Fr_sub (by decide))
              have hP278 := Pf_f hP12 hF273 (by decide)
              have hS279 := Fx_f hS13 hF273 (by decide)
              have hV280 := Fx_f hV14 hF273 (by decide)
              have sf281 : ND A269 (n) (32) (0) (0) (0) (0) (Ax 21 (n).toNat) (0) := ND_ag (by omega) (Ag_fr hF273 (by decide)) sf15
              have sf282 : CL 2 A269 (sy1) pb (k) (Vs) (n) (last) (many) (n + 1) (nd1) (sy) (sy1) := CL_ag (by omega) (by omega) (Sg_fr hF273 (by decide)) (Qg_fr hF273 (by decide)) (Ag_fr hF273 (by decide)) (congrFun (hF273.2 21 rfl) _) sf16
              have bfk2_271 : (0 : Int) ≤ fk2_271 ∧ fk2_271 ≤ 6 := e275 ▸ hW272.1 16
              refine .inr ⟨_, rfl, ?_⟩
              rcases q276 with ⟨rfl, a283, a284, a285, a286⟩ | ⟨rfl, a287⟩
              · have _q : True := trivial
                have b288 : (0 : Int) ≤ A 4 (ln1).toNat ∧ A 4 (ln1).toNat ≤ 3000 := hW.2 4 _
                have lt289 : lf1 < A 4 (ln1).toNat := LT_at (LT_ext (((hF273.1 3 rfl).trans ((hF7.1 3 rfl).trans (hFx.1 3 rfl)))) (((hF273.2 3 rfl).trans ((hF7.2 3 rfl).trans (hFx.2 3 rfl)))) (((hF273.2 4 rfl).trans ((hF7.2 4 rfl).trans (hFx.2 4 rfl)))) i_LT) (show G268 3 = li from ((hF273.1 3 rfl).trans ((hF7.1 3 rfl).trans ((hFx.1 3 rfl).trans (e_li))))) (show A269 3 (ln1).toNat = lf1 from (congrFun ((hF273.2 3 rfl).trans (hF7.2 3 rfl)) _).trans (ex_lf1)) (show A269 4 (ln1).toNat = A 4 (ln1).toNat from (congrFun ((hF273.2 4 rfl).trans ((hF7.2 4 rfl).trans (hFx.2 4 rfl))) _)) (by omega) (by omega)
                refine jx_ar (pc' := 150) (st' := []) rfl rfl rfl rfl ?_
                refine jx_ld (pc' := 151) (l' := L) (st' := [.ref 66]) rfl (jl_aloadn gL_0) ?_
                refine jr_get (pc' := 154) (i := 35) (v := .ref 85) rfl rfl (by decide) rfl rfl ?_
                refine jx_ld (pc' := 155) (l' := L) (st' := [.int (i32 (n)), .ref 85]) rfl (jl_iloadn gL_2) ?_
                refine jx_ld (pc' := 157) (l' := L) (st' := [.int (i32 (many)), .int (i32 (n)), .ref 85]) rfl (jl_iload gL_4) ?_
                refine jr_st (pc' := 158) (i := 18) (m := 7000) (z := n) (y := many) rfl (by decide) rfl (by decide) (by omega) (by omega) rfl ?_
                have hW291 : Wk G268 (uA A269 18 (n).toNat (many)) := Wk_a hW272 (show (-2147483648 : Int) ≤ many by omega) (show many ≤ (2147483647 : Int) by omega)
                have hF292 := Fr_a (z := many) (k := 18) (n := (n).toNat) hF277 (by decide)
                obtain ⟨A290, eA290⟩ : ∃ q, q = uA A269 18 (n).toNat (many) := ⟨_, rfl⟩
                rw [← eA290]
                rw [← eA290] at hW291 hF292
                have q293 : A290 18 (n).toNat = many := by rw [eA290]; exact uA_eq
                have hP294 : Pf nd A A290 := eA290 ▸ Pf_a hP278 (z := n) (by omega) (by omega)
                have hS295 : Fx sr (sy) A A290 := eA290 ▸ Fx_n hS279 rfl
                have hV296 : Fx [14] (vi) A A290 := eA290 ▸ Fx_n hV280 rfl
                have sf297 : ND A290 (n) (32) (0) (many) (0) (0) (Ax 21 (n).toNat) (0) := ND_b eA290 sf281
                have sf298 : CL 2 A290 (sy1) pb (k) (Vs) (n) (last) (many) (n + 1) (nd1) (sy) (sy1) := CL_ag (by omega) (by omega) (Sg_ne eA290 rfl) (Qg_ne eA290 rfl) (Ag_st eA290 (by omega) (by omega)) ((congrFun ((congrFun eA290 21).trans (uA_ne (by decide))) _)) sf282
                refine jx_ld (pc' := 159) (l' := L) (st' := [.int (i32 (n))]) rfl (jl_iloadn gL_2) ?_
                refine jx_rt (v := some (.int (i32 (n)))) rfl rfl rfl rfl rfl rfl ?_
                exact ⟨_, _, _, ln1, at1, fk2_271, nd1, sy1, na1, vi1, lf1, rfl, rfl, hW291, hF292, hP294, hS295, hV296, by omega, ((hF273.1 9 rfl).trans ((hF7.1 9 rfl).trans (ex_ln1))), ((hF273.1 10 rfl).trans ((hF7.1 10 rfl).trans (ex_at1))), (e275), ((hF273.1 31 rfl).trans ((hF7.1 31 rfl).trans (ex_nd1))), ((hF273.1 19 rfl).trans ((hF7.1 19 rfl).trans (ex_sy1))), ((hF273.1 28 rfl).trans ((hF7.1 28 rfl).trans (ex_na1))), ((hF273.1 29 rfl).trans ((hF7.1 29 rfl).trans (ex_vi1))), (congrFun (((congrFun eA290 3).trans (uA_ne (by decide))).trans ((hF273.2 3 rfl).trans (hF7.2 3 rfl))) _).trans (ex_lf1), by omega, by omega, by omega, by omega, by omega, by omega, by omega, by omega, by omega, by omega, by first | exact Or.inr ((⟨by omega, by omega, by omega, by omega, by omega, by omega, by omega, (wS_alt sf297 (RL_eq (RL_cl sf298) (by omega) (by omega) (by omega) (by omega) (by omega)) (by omega) (by omega)), (NX_nd sf297)⟩))⟩
              · have _q : True := trivial
                refine jx_ar (pc' := 150) (st' := []) rfl rfl rfl rfl ?_
                refine jx_ld (pc' := 151) (l' := L) (st' := [.ref 66]) rfl (jl_aloadn gL_0) ?_
                refine jr_get (pc' := 154) (i := 35) (v := .ref 85) rfl rfl (by decide) rfl rfl ?_
                refine jx_ld (pc' := 155) (l' := L) (st' := [.int (i32 (n)), .ref 85]) rfl (jl_iloadn gL_2) ?_
                refine jx_ld (pc' := 157) (l' := L) (st' := [.int (i32 (many)), .int (i32 (n)), .ref 85]) rfl (jl_iload gL_4) ?_
                refine jr_st (pc' := 158) (i := 18) (m := 7000) (z := n) (y := many) rfl (by decide) rfl (by decide) (by omega) (by omega) rfl ?_
                have hW300 : Wk G268 (uA A269 18 (n).toNat (many)) := Wk_a hW272 (show (-2147483648 : Int) ≤ many by omega) (show many ≤ (2147483647 : Int) by omega)
                have hF301 := Fr_a (z := many) (k := 18) (n := (n).toNat) hF277 (by decide)
                obtain ⟨A299, eA299⟩ : ∃ q, q = uA A269 18 (n).toNat (many) := ⟨_, rfl⟩
                rw [← eA299]
                rw [← eA299] at hW300 hF301
                have q302 : A299 18 (n).toNat = many := by rw [eA299]; exact uA_eq
                have hP303 : Pf nd A A299 := eA299 ▸ Pf_a hP278 (z := n) (by omega) (by omega)
                have hS304 : Fx sr (sy) A A299 := eA299 ▸ Fx_n hS279 rfl
                have hV305 : Fx [14] (vi) A A299 := eA299 ▸ Fx_n hV280 rfl
                have sf306 : ND A299 (n) (32) (0) (many) (0) (0) (Ax 21 (n).toNat) (0) := ND_b eA299 sf281
                have sf307 : CL 2 A299 (sy1) pb (k) (Vs) (n) (last) (many) (n + 1) (nd1) (sy) (sy1) := CL_ag (by omega) (by omega) (Sg_ne eA299 rfl) (Qg_ne eA299 rfl) (Ag_st eA299 (by omega) (by omega)) ((congrFun ((congrFun eA299 21).trans (uA_ne (by decide))) _)) sf282
                refine jx_ld (pc' := 159) (l' := L) (st' := [.int (i32 (n))]) rfl (jl_iloadn gL_2) ?_
                refine jx_rt (v := some (.int (i32 (n)))) rfl rfl rfl rfl rfl rfl ?_
                exact ⟨_, _, _, ln1, at1, fk2_271, nd1, sy1, na1, vi1, lf1, rfl, rfl, hW300, hF301, hP303, hS304, hV305, by omega, ((hF273.1 9 rfl).trans ((hF7.1 9 rfl).trans (ex_ln1))), ((hF273.1 10 rfl).trans ((hF7.1 10 rfl).trans (ex_at1))), (e275), ((hF273.1 31 rfl).trans ((hF7.1 31 rfl).trans (ex_nd1))), ((hF273.1 19 rfl).trans ((hF7.1 19 rfl).trans (ex_sy1))), ((hF273.1 28 rfl).trans ((hF7.1 28 rfl).trans (ex_na1))), ((hF273.1 29 rfl).trans ((hF7.1 29 rfl).trans (ex_vi1))), (congrFun (((congrFun eA299 3).trans (uA_ne (by decide))).trans ((hF273.2 3 rfl).trans (hF7.2 3 rfl))) _).trans (ex_lf1), by omega, by omega, by omega, by omega, by omega, by omega, by omega, by omega, by omega, by omega, by first | exact Or.inl (⟨by omega, by omega⟩)⟩
      · have _q := h251
        exact absurd h251 (by omega)
set_option maxRecDepth 20000 in
set_option maxHeartbeats 4000000 in
theorem c_readAlt {X : jX} {k : Nat} (hP : RP X k) {dd : Nat} {Vs : Nat → Prop} {sb pb : Int} (hvb : VB Vs sb) {c0 c1 : jC} {G : Nat → Int} {A : Nat → Nat → Int} {T : jH} {lv : Int} {ln li at0 fk nd sy na vi le op0 tk0 : Int} (hd : 8 * k + 82 ≤ dd) (hW : Wk G A) (e_ln : G 9 = ln) (e_li : G 3 = li) (e_at0 : G 10 = at0) (e_fk : G 16 = fk) (e_nd : G 31 = nd) (e_sy : G 19 = sy) (e_na : G 28 = na) (e_vi : G 29 = vi) (e_le : A 4 (ln).toNat = le) (e_op0 : G 15 = op0) (e_tk0 : G 11 = tk0) (i_LT : LT G A) (i_SV : SV Vs sb G A) (i_PQ : PQ Vs sb pb G A) (h_lv : (-2147483648 : Int) ≤ lv ∧ lv ≤ 2147483647) (p_0 : 0 ≤ lv ∧ lv ≤ 15) (p_1 : 18 - lv ≤ ((k + 1 : Nat) : Int)) (p_2 : fk = 0) (p_3 : ln < li) (p_4 : at0 ≤ le) (p_5 : op0 = 0) (p_6 : nd ≤ 2 * at0 - tz tk0 + 30) (p_7 : sy ≤ na + 2) (p_8 : vi ≤ sy) (p_9 : sb = sy) (p_10 : 1 ≤ tk0) : wk X dd 302 [.ref 66, .int (i32 lv)] (rV c0 c1 G A T) (fun o V' => ∃ (G' : Nat → Int) (A' : Nat → Nat → Int) (r : Int) (ln2 : Int) (at2 : Int) (fk2 : Int) (nd2 : Int) (sy2 : Int) (na2 : Int) (vi2 : Int) (lf2 : Int), V' = rV c0 c1 G' A' T ∧ o = .inl (some (.int (i32 r))) ∧ Wk G' A' ∧ Fr [9, 10, 11, 12, 13, 14, 15, 16, 17, 18, 19, 28, 29, 31] [6, 7, 8, 9, 10, 11, 12, 14, 15, 16, 17, 18, 19, 20, 21, 22, 23, 24, 28] G A G' A' ∧ Pf nd A A' ∧ Fx sr (sy) A A' ∧ Fx [14] (vi) A A' ∧ ((-2147483648 : Int) ≤ r ∧ r ≤ 2147483647) ∧ G' 9 = ln2 ∧ G' 10 = at2 ∧ G' 16 = fk2 ∧ G' 31 = nd2 ∧ G' 19 = sy2 ∧ G' 28 = na2 ∧ G' 29 = vi2 ∧ A' 3 (ln2).toNat = lf2 ∧ (at0 ≤ at2) ∧ (nd ≤ nd2) ∧ (sy ≤ sy2) ∧ (sy2 ≤ na2 + 2) ∧ (vi ≤ vi2) ∧ (vi2 ≤ vi + 1) ∧ (0 ≤ r) ∧ (r ≤ 6999) ∧ (ln ≤ ln2) ∧ (ln2 ≤ li) ∧ (((1 ≤ fk2) ∧ (nd2 - nd ≤ 2 * at2 - (2 * at0 - tz tk0) + 14)) ∨ ((fk2 = 0) ∧ (vi2 = vi) ∧ (ln < ln2) ∧ (nd2 - nd ≤ 2 * at2 - (2 * at0 - tz tk0)) ∧ (at2 < lf2 ∨ li ≤ ln2) ∧ (nd ≤ r) ∧ (r < nd2) ∧ (wSt A' (sy2) pb (wP A' (sy2) pb (k)) (Vs) (r) (nd) (nd2) (sy) (sy2)) ∧ (NX A' (r))))) := by
  obtain ⟨d, rfl⟩ : ∃ d, dd = d + 1 := ⟨dd - 1, by omega⟩
  refine wk_of (e := jm302) rfl (Nat.le_of_ble_eq_true rfl) ?_
  show wj X d jm302 (0, [(0, .ref 66), (1, .int (i32 (lv)))], [], rV c0 c1 G A T) _
  have hF0 : Fr [9, 10, 11, 12, 13, 14, 15, 16, 17, 18, 19, 28, 29, 31] [6, 7, 8, 9, 10, 11, 12, 14, 15, 16, 17, 18, 19, 20, 21, 22, 23, 24, 28] G A G A := Fr_rf
  have hP0 : Pf nd A A := Pf_rf
  have hS0 : Fx sr (sy) A A := Fx_rf
  have hV0 : Fx [14] (vi) A A := Fx_rf
  have b_ln : (0 : Int) ≤ ln ∧ ln ≤ 3000 := e_ln ▸ hW.1 9
  have b_li : (0 : Int) ≤ li ∧ li ≤ 3000 := e_li ▸ hW.1 3
  have b_at0 : (0 : Int) ≤ at0 ∧ at0 ≤ 3002 := e_at0 ▸ hW.1 10
  have b_fk : (0 : Int) ≤ fk ∧ fk ≤ 6 := e_fk ▸ hW.1 16
  have b_nd : (0 : Int) ≤ nd ∧ nd ≤ 6999 := e_nd ▸ hW.1 31
  have b_sy : (0 : Int) ≤ sy ∧ sy ≤ 202 := e_sy ▸ hW.1 19
  have b_na : (0 : Int) ≤ na ∧ na ≤ 200 := e_na ▸ hW.1 28
  have b_vi : (0 : Int) ≤ vi ∧ vi ≤ 202 := e_vi ▸ hW.1 29
  have b_le : (0 : Int) ≤ le ∧ le ≤ 3000 := e_le ▸ hW.2 4 _
  have b_op0 : (-2147483648 : Int) ≤ op0 ∧ op0 ≤ 2147483647 := e_op0 ▸ hW.1 15
  have z_tk0 := tz_f tk0
  have b_tk0 : (0 : Int) ≤ tk0 ∧ tk0 ≤ 5 := e_tk0 ▸ hW.1 11
  refine jx_ld (pc' := 1) (l' := [(0, .ref 66), (1, .int (i32 (lv)))]) (st' := [.ref 66]) rfl (jl_aloadn rfl) ?_
  refine jx_ar (pc' := 3) (st' := [.int (i32 (32)), .ref 66]) rfl rfl rfl rfl ?_
  refine jx_ar (pc' := 4) (st' := [.int (i32 (0)), .int (i32 (32)), .ref 66]) rfl rfl rfl rfl ?_
  refine jx_ar (pc' := 5) (st' := [.int (i32 (0)), .int (i32 (0)), .int (i32 (32)), .ref 66]) rfl rfl rfl rfl ?_
  refine jx_ar (pc' := 6) (st' := [.int (i32 (0)), .int (i32 (0)), .int (i32 (0)), .int (i32 (32)), .ref 66]) rfl rfl rfl rfl ?_
  refine jx_ar (pc' := 7) (st' := [.int (i32 (0)), .int (i32 (0)), .int (i32 (0)), .int (i32 (0)), .int (i32 (32)), .ref 66]) rfl rfl rfl rfl ?_
  refine jx_vr (pc' := 10) (as := [.int (i32 (32)), .int (i32 (0)), .int (i32 (0)), .int (i32 (0)), .int (i32 (0))]) (st := []) rfl rfl rfl rfl ⟨rfl, rfl, Nat.le_of_ble_eq_true rfl⟩ rfl rfl (c_node (dd := d) (hd := by omega) (hW := hW) (kind := 32) (a := 0) (b := 0) (c := 0) (e := 0) (nd := nd) (e_nd := show G 31 = nd from (e_nd))  (h_kind := ⟨(by decide), (by decide)⟩) (h_a := ⟨(by decide), (by decide)⟩) (h_b := ⟨(by decide), (by decide)⟩) (h_c := ⟨(by decide), (by decide)⟩) (h_e := ⟨(by decide), (by decide)⟩)  (p_0 := by omega) (p_1 := by omega)) (fun o V' hq => ?_)
  obtain ⟨G308, A309, nd2_310, rfl, rfl, hW311, hF312, hQ313, e314, p315, p316, -⟩ := hq
  have hF318 := Fr_tr hF0 hF312 (Fr_sub (by decide)) (Fr_sub (by decide))
  have hP319 := Pf_tr hP0 hQ313 (by omega)
  have hS320 := Fx_f hS0 hF312 (by decide)
  have hV321 := Fx_f hV0 hF312 (by decide)
  have bnd2_310 : (0 : Int) ≤ nd2_310 ∧ nd2_310 ≤ 6999 := e314 ▸ hW311.1 31
  refine .inr ⟨_, rfl, ?_⟩
  refine jx_ld (pc' := 11) (l' := jSto1 [(0, .ref 66), (1, .int (i32 (lv)))] 2 (.int (i32 (nd)))) (st' := []) rfl rfl ?_
  obtain ⟨L322, eL322⟩ : ∃ q, q = jSto1 [(0, .ref 66), (1, .int (i32 (lv)))] 2 (.int (i32 (nd))) := ⟨_, rfl⟩
  rw [← eL322]
  have gL322_0 : jGet L322 0 = some (.ref 66) := eL322 ▸ jg_ne (by decide) (rfl : jGet [(0, .ref 66), (1, .int (i32 (lv)))] 0 = some (.ref 66)) rfl
  have gL322_1 : jGet L322 1 = some (.int (i32 (lv))) := eL322 ▸ jg_ne (by decide) (rfl : jGet [(0, .ref 66), (1, .int (i32 (lv)))] 1 = some (.int (i32 (lv)))) rfl
  have gL322_2 : jGet L322 2 = some (.int (i32 (nd))) := eL322 ▸ jg_eq
  refine jx_ld (pc' := 12) (l' := L322) (st' := [.ref 66]) rfl (jl_aloadn gL322_0) ?_
  refine jx_vr (pc' := 15) (as := []) (st := []) rfl rfl rfl rfl ⟨rfl, rfl, Nat.le_of_ble_eq_true rfl⟩ rfl rfl (c_next (dd := d) (hd := by omega) (hW := hW311)  (ln := ln) (e_ln := show G308 9 = ln from ((hF312.1 9 rfl).trans (e_ln))) (le := le) (e_le := show A309 4 (ln).toNat = le from (congrFun (hF312.2 4 rfl) _).trans (e_le)) (at0 := at0) (e_at0 := show G308 10 = at0 from ((hF312.1 10 rfl).trans (e_at0)))    (p_0 := by omega)) (fun o V' hq => ?_)
  obtain ⟨G323, A324, at2_325, tk2_326, rfl, rfl, hW327, hF328, e329, e330, p331, p332, p333, -⟩ := hq
  have hF335 := Fr_tr hF318 hF328 (Fr_sub (by decide)) (Fr_sub (by decide))
  have hP336 := Pf_f hP319 hF328 (by decide)
  have hS337 := Fx_f hS320 hF328 (by decide)
  have hV338 := Fx_f hV321 hF328 (by decide)
  have sf339 : ND A324 (nd) (32) (0) (0) (0) (0) (0) (0) := ND_ag (by omega) (Ag_fr hF328 (by decide)) p316
  have bat2_325 : (0 : Int) ≤ at2_325 ∧ at2_325 ≤ 3002 := e329 ▸ hW327.1 10
  have ztk2_326 := tz_b tk2_326
  have btk2_326 : (0 : Int) ≤ tk2_326 ∧ tk2_326 ≤ 5 := e330 ▸ hW327.1 11
  refine .inl ⟨rfl, ?_⟩
  refine jx_ld (pc' := 16) (l' := L322) (st' := [.ref 66]) rfl (jl_aloadn gL322_0) ?_
  refine jx_vr (pc' := 19) (as := []) (st := []) rfl rfl rfl rfl ⟨rfl, rfl, Nat.le_of_ble_eq_true rfl⟩ rfl rfl (c_endLine (dd := d) (hd := by omega) (hW := hW327)  (ln := ln) (e_ln := show G323 9 = ln from ((hF328.1 9 rfl).trans ((hF312.1 9 rfl).trans (e_ln)))) (li := li) (e_li := show G323 3 = li from ((hF328.1 3 rfl).trans ((hF312.1 3 rfl).trans (e_li)))) (fk := fk) (e_fk := show G323 16 = fk from ((hF328.1 16 rfl).trans ((hF312.1 16 rfl).trans (e_fk)))) (tk0 := tk2_326) (e_tk0 := show G323 11 = tk2_326 from (e330))    (p_0 := by omega)) (fun o V' hq => ?_)
  obtain ⟨G340, A341, ln2_342, fk2_343, rfl, rfl, hW344, hF345, e346, e347, q348⟩ := hq
  have hF349 := Fr_tr hF335 hF345 (Fr_sub (by decide)) (Fr_sub (by decide))
  have hP350 := Pf_f hP336 hF345 (by decide)
  have hS351 := Fx_f hS337 hF345 (by decide)
  have hV352 := Fx_f hV338 hF345 (by decide)
  have sf353 : ND A341 (nd) (32) (0) (0) (0) (0) (0) (0) := ND_ag (by omega) (Ag_fr hF345 (by decide)) sf339
  have bln2_342 : (0 : Int) ≤ ln2_342 ∧ ln2_342 ≤ 3000 := e346 ▸ hW344.1 9
  have bfk2_343 : (0 : Int) ≤ fk2_343 ∧ fk2_343 ≤ 6 := e347 ▸ hW344.1 16
  refine .inl ⟨rfl, ?_⟩
  rcases q348 with ⟨a354, a355, a356, a357, a358⟩ | ⟨a359, a360⟩
  · have _q : True := trivial
    have b361 : (0 : Int) ≤ A 3 (ln2_342).toNat ∧ A 3 (ln2_342).toNat ≤ 3000 := hW.2 3 _
    have lt362 : ln2_342 < li → le < A 3 (ln2_342).toNat := fun hh => LT_nx (LT_ext (((hF345.1 3 rfl).trans ((hF328.1 3 rfl).trans (hF312.1 3 rfl)))) (((hF345.2 3 rfl).trans ((hF328.2 3 rfl).trans (hF312.2 3 rfl)))) (((hF345.2 4 rfl).trans ((hF328.2 4 rfl).trans (hF312.2 4 rfl)))) i_LT) (show G340 3 = li from ((hF345.1 3 rfl).trans ((hF328.1 3 rfl).trans ((hF312.1 3 rfl).trans (e_li))))) (show A341 4 (ln).toNat = le from (congrFun ((hF345.2 4 rfl).trans ((hF328.2 4 rfl).trans (hF312.2 4 rfl))) _).trans (e_le)) (show A341 3 (ln2_342).toNat = A 3 (ln2_342).toNat from (congrFun ((hF345.2 3 rfl).trans ((hF328.2 3 rfl).trans (hF312.2 3 rfl))) _)) (show ln2_342 = ln + 1 by omega) (by omega) hh
    refine jx_ar (pc' := 20) (st' := [.int (i32 (0))]) rfl rfl rfl rfl ?_
    refine jx_ld (pc' := 21) (l' := jSto1 L322 3 (.int (i32 (0)))) (st' := []) rfl rfl ?_
    obtain ⟨L363, eL363⟩ : ∃ q, q = jSto1 L322 3 (.int (i32 (0))) := ⟨_, rfl⟩
    rw [← eL363]
    have gL363_0 : jGet L363 0 = some (.ref 66) := eL363 ▸ jg_ne (by decide) gL322_0 rfl
    have gL363_1 : jGet L363 1 = some (.int (i32 (lv))) := eL363 ▸ jg_ne (by decide) gL322_1 rfl
    have gL363_2 : jGet L363 2 = some (.int (i32 (nd))) := eL363 ▸ jg_ne (by decide) gL322_2 rfl
    have gL363_3 : jGet L363 3 = some (.int (i32 (0))) := eL363 ▸ jg_eq
    refine jx_ar (pc' := 22) (st' := [.int (i32 (0))]) rfl rfl rfl rfl ?_
    refine jx_ld (pc' := 24) (l' := jSto1 L363 4 (.int (i32 (0)))) (st' := []) rfl rfl ?_
    obtain ⟨L364, eL364⟩ : ∃ q, q = jSto1 L363 4 (.int (i32 (0))) := ⟨_, rfl⟩
    rw [← eL364]
    have gL364_0 : jGet L364 0 = some (.ref 66) := eL364 ▸ jg_ne (by decide) gL363_0 rfl
    have gL364_1 : jGet L364 1 = some (.int (i32 (lv))) := eL364 ▸ jg_ne (by decide) gL363_1 rfl
    have gL364_2 : jGet L364 2 = some (.int (i32 (nd))) := eL364 ▸ jg_ne (by decide) gL363_2 rfl
    have gL364_3 : jGet L364 3 = some (.int (i32 (0))) := eL364 ▸ jg_ne (by decide) gL363_3 rfl
    have gL364_4 : jGet L364 4 = some (.int (i32 (0))) := eL364 ▸ jg_eq
    exact c_readAlt_at_24 (X := X) (k := k) (hP := hP) (d := d) (Vs := Vs) (sb := sb) (pb := pb) (hvb := hvb) (c0 := c0) (c1 := c1) (G := G) (A := A) (T := T) (lv := lv) (ln := ln) (li := li) (at0 := at0) (fk := fk) (nd := nd) (sy := sy) (na := na) (vi := vi) (le := le) (op0 := op0) (tk0 := tk0) (hd := hd) (hW := hW) (e_ln := e_ln) (e_li := e_li) (e_at0 := e_at0) (e_fk := e_fk) (e_nd := e_nd) (e_sy := e_sy) (e_na := e_na) (e_vi := e_vi) (e_le := e_le) (e_op0 := e_op0) (e_tk0 := e_tk0) (i_LT := i_LT) (i_SV := i_SV) (i_PQ := i_PQ) (h_lv := h_lv) (p_0 := p_0) (p_1 := p_1) (p_2 := p_2) (p_3 := p_3) (p_4 := p_4) (p_5 := p_5) (p_6 := p_6) (p_7 := p_7) (p_8 := p_8) (p_9 := p_9) (p_10 := p_10) _ L364 G340 A341 (nd) (0) (0) (ln2_342) (at2_325) (fk2_343) (nd2_310) (sy) (na) (vi) (A 3 (ln2_342).toNat) rfl gL364_0 gL364_1 gL364_2 gL364_3 gL364_4 hW344 hF349 hP350 hS351 hV352 ((e346)) (((hF345.1 10 rfl).trans (e329))) ((e347)) (((hF345.1 31 rfl).trans ((hF328.1 31 rfl).trans (e314)))) (((hF345.1 19 rfl).trans ((hF328.1 19 rfl).trans ((hF312.1 19 rfl).trans (e_sy))))) (((hF345.1 28 rfl).trans ((hF328.1 28 rfl).trans ((hF312.1 28 rfl).trans (e_na))))) (((hF345.1 29 rfl).trans ((hF328.1 29 rfl).trans ((hF312.1 29 rfl).trans (e_vi))))) ((congrFun ((hF345.2 3 rfl).trans ((hF328.2 3 rfl).trans (hF312.2 3 rfl))) _)) (by omega) (by omega) (by omega) (by omega) (by omega) (by omega) (by omega) (by omega) (by omega) (by omega) (by omega) (by omega) (by omega) (by omega) (by omega) (by omega) (by omega) (by omega) ((ND_sf sf353)) ((CL_eq (CL_nil (lo := nd + 1) (s0 := sy) (ND_f0 sf353)) (by omega) (by omega) (by omega) (by omega) (by omega) (by omega)))
  · have _q : True := trivial
    refine jx_ar (pc' := 20) (st' := [.int (i32 (0))]) rfl rfl rfl rfl ?_
    refine jx_ld (pc' := 21) (l' := jSto1 L322 3 (.int (i32 (0)))) (st' := []) rfl rfl ?_
    obtain ⟨L365, eL365⟩ : ∃ q, q = jSto1 L322 3 (.int (i32 (0))) := ⟨_, rfl⟩
    rw [← eL365]
    have gL365_0 : jGet L365 0 = some (.ref 66) := eL365 ▸ jg_ne (by decide) gL322_0 rfl
    have gL365_1 : jGet L365 1 = some (.int (i32 (lv))) := eL365 ▸ jg_ne (by decide) gL322_1 rfl
    have gL365_2 : jGet L365 2 = some (.int (i32 (nd))) := eL365 ▸ jg_ne (by decide) gL322_2 rfl
    have gL365_3 : jGet L365 3 = some (.int (i32 (0))) := eL365 ▸ jg_eq
    refine jx_ar (pc' := 22) (st' := [.int (i32 (0))]) rfl rfl rfl rfl ?_
    refine jx_ld (pc' := 24) (l' := jSto1 L365 4 (.int (i32 (0)))) (st' := []) rfl rfl ?_
    obtain ⟨L366, eL366⟩ : ∃ q, q = jSto1 L365 4 (.int (i32 (0))) := ⟨_, rfl⟩
    rw [← eL366]
    have gL366_0 : jGet L366 0 = some (.ref 66) := eL366 ▸ jg_ne (by decide) gL365_0 rfl
    have gL366_1 : jGet L366 1 = some (.int (i32 (lv))) := eL366 ▸ jg_ne (by decide) gL365_1 rfl
    have gL366_2 : jGet L366 2 = some (.int (i32 (nd))) := eL366 ▸ jg_ne (by decide) gL365_2 rfl
    have gL366_3 : jGet L366 3 = some (.int (i32 (0))) := eL366 ▸ jg_ne (by decide) gL365_3 rfl
    have gL366_4 : jGet L366 4 = some (.int (i32 (0))) := eL366 ▸ jg_eq
    refine jx_ld (pc' := 25) (l' := L366) (st' := [.ref 66]) rfl (jl_aloadn gL366_0) ?_
    refine jx_ld (pc' := 26) (l' := L366) (st' := [.int (i32 (lv)), .ref 66]) rfl (jl_iloadn gL366_1) ?_
    have b367 : (-1 : Int) ≤ A 5 (ln2_342).toNat ∧ A 5 (ln2_342).toNat ≤ 15 := hW.2 5 _
    refine jx_vr (pc' := 29) (as := [.int (i32 (lv))]) (st := []) rfl rfl rfl rfl ⟨rfl, rfl, Nat.le_of_ble_eq_true rfl⟩ rfl rfl (c_isBelow (dd := d) (hd := by omega) (hW := hW344) (lv := lv) (ln := ln2_342) (e_ln := show G340 9 = ln2_342 from (e346)) (li := li) (e_li := show G340 3 = li from ((hF345.1 3 rfl).trans ((hF328.1 3 rfl).trans ((hF312.1 3 rfl).trans (e_li))))) (fk := fk2_343) (e_fk := show G340 16 = fk2_343 from (e347)) (ll := A 5 (ln2_342).toNat) (e_ll := show A341 5 (ln2_342).toNat = A 5 (ln2_342).toNat from (congrFun ((hF345.2 5 rfl).trans ((hF328.2 5 rfl).trans (hF312.2 5 rfl))) _))  (h_lv := ⟨(Int.le_trans (by decide : (-2147483648 : Int) ≤ -2147483648) h_lv.1), (Int.le_trans h_lv.2 (by decide : (2147483647 : Int) ≤ 2147483647))⟩)  (p_0 := by omega)) (fun o V' hq => ?_)
    obtain ⟨G368, A369, r370, fk2_371, rfl, rfl, hW372, hF373, b374, e375, q376⟩ := hq
    have hF377 := Fr_tr hF349 hF373 (Fr_sub (by decide)) (Fr_sub (by decide))
    have hP378 := Pf_f hP350 hF373 (by decide)
    have hS379 := Fx_f hS351 hF373 (by decide)
    have hV380 := Fx_f hV352 hF373 (by decide)
    have sf381 : ND A369 (nd) (32) (0) (0) (0) (0) (0) (0) := ND_ag (by omega) (Ag_fr hF373 (by decide)) sf353
    have bfk2_371 : (0 : Int) ≤ fk2_371 ∧ fk2_371 ≤ 6 := e375 ▸ hW372.1 16
    refine .inr ⟨_, rfl, ?_⟩
    rcases q376 with ⟨rfl, a382, a383, a384, a385⟩ | ⟨rfl, a386⟩ | ⟨rfl, a387, a388, a389⟩
    · have _q : True := trivial
      exfalso
      omega
    · have _q : True := trivial
      refine jx_if_eq (pc' := 32) (tg := 130) rfl rfl rfl (by decide) (by decide) (fun h390 => ?_) (fun h390 => ?_)
      · have _q := h390
        refine jx_ld (pc' := 131) (l' := L366) (st' := [.ref 66]) rfl (jl_aloadn gL366_0) ?_
        refine jx_vr (pc' := 134) (as := []) (st := []) rfl rfl rfl rfl ⟨rfl, rfl, Nat.le_of_ble_eq_true rfl⟩ rfl rfl (c_bad (dd := d) (hd := by omega) (hW := hW372)  (fk := fk2_371) (e_fk := show G368 16 = fk2_371 from (e375))    ) (fun o V' hq => ?_)
        obtain ⟨r391, rfl, rfl, b392, q393⟩ := hq
        refine .inr ⟨_, rfl, ?_⟩
        rcases q393 with ⟨rfl, a394⟩ | ⟨rfl, a395⟩
        · have _q : True := trivial
          refine jx_if_ne (pc' := 137) (tg := 150) rfl rfl rfl (by decide) (by decide) (fun h396 => ?_) (fun h396 => ?_)
          · have _q := h396
            refine jx_ld (pc' := 151) (l' := L366) (st' := [.ref 66]) rfl (jl_aloadn gL366_0) ?_
            refine jr_get (pc' := 154) (i := 35) (v := .ref 85) rfl rfl (by decide) rfl rfl ?_
            refine jx_ld (pc' := 155) (l' := L366) (st' := [.int (i32 (nd)), .ref 85]) rfl (jl_iloadn gL366_2) ?_
            refine jx_ld (pc' := 157) (l' := L366) (st' := [.int (i32 (0)), .int (i32 (nd)), .ref 85]) rfl (jl_iload gL366_4) ?_
            refine jr_st (pc' := 158) (i := 18) (m := 7000) (z := nd) (y := 0) rfl (by decide) rfl (by decide) (by omega) (by omega) rfl ?_
            have hW398 : Wk G368 (uA A369 18 (nd).toNat (0)) := Wk_a hW372 (show (-2147483648 : Int) ≤ 0 by omega) (show 0 ≤ (2147483647 : Int) by omega)
            have hF399 := Fr_a (z := 0) (k := 18) (n := (nd).toNat) hF377 (by decide)
            obtain ⟨A397, eA397⟩ : ∃ q, q = uA A369 18 (nd).toNat (0) := ⟨_, rfl⟩
            rw [← eA397]
            rw [← eA397] at hW398 hF399
            have q400 : A397 18 (nd).toNat = 0 := by rw [eA397]; exact uA_eq
            have hP401 : Pf nd A A397 := eA397 ▸ Pf_a hP378 (z := nd) (by omega) (by omega)
            have hS402 : Fx sr (sy) A A397 := eA397 ▸ Fx_n hS379 rfl
            have hV403 : Fx [14] (vi) A A397 := eA397 ▸ Fx_n hV380 rfl
            have sf404 : ND A397 (nd) (32) (0) (0) (0) (0) (0) (0) := ND_b eA397 sf381
            refine jx_ld (pc' := 159) (l' := L366) (st' := [.int (i32 (nd))]) rfl (jl_iloadn gL366_2) ?_
            refine jx_rt (v := some (.int (i32 (nd)))) rfl rfl rfl rfl rfl rfl ?_
            exact ⟨_, _, _, ln2_342, at2_325, fk2_371, nd2_310, sy, na, vi, A 3 (ln2_342).toNat, rfl, rfl, hW398, hF399, hP401, hS402, hV403, by omega, ((hF373.1 9 rfl).trans (e346)), ((hF373.1 10 rfl).trans ((hF345.1 10 rfl).trans (e329))), (e375), ((hF373.1 31 rfl).trans ((hF345.1 31 rfl).trans ((hF328.1 31 rfl).trans (e314)))), ((hF373.1 19 rfl).trans ((hF345.1 19 rfl).trans ((hF328.1 19 rfl).trans ((hF312.1 19 rfl).trans (e_sy))))), ((hF373.1 28 rfl).trans ((hF345.1 28 rfl).trans ((hF328.1 28 rfl).trans ((hF312.1 28 rfl).trans (e_na))))), ((hF373.1 29 rfl).trans ((hF345.1 29 rfl).trans ((hF328.1 29 rfl).trans ((hF312.1 29 rfl).trans (e_vi))))), (congrFun (((congrFun eA397 3).trans (uA_ne (by decide))).trans ((hF373.2 3 rfl).trans ((hF345.2 3 rfl).trans ((hF328.2 3 rfl).trans (hF312.2 3 rfl))))) _), by omega, by omega, by omega, by omega, by omega, by omega, by omega, by omega, by omega, by omega, by first | exact Or.inl (⟨by omega, by omega⟩)⟩
          · have _q := h396
            exact absurd h396 (by omega)
        · have _q : True := trivial
          exfalso
          omega
      · have _q := h390
        exact absurd h390 (by omega)
    · have _q : True := trivial
      exfalso
      omega
set_option maxRecDepth 20000 in
set_option maxHeartbeats 4000000 in
theorem c_readStatement {X : jX} {k : Nat} (hP : RP X k) {dd : Nat} {Vs : Nat → Prop} {sb pb : Int} (hvb : VB Vs sb) {c0 c1 : jC} {G : Nat → Int} {A : Nat → Nat → Int} {T : jH} {lv : Int} {ln li at0 fk nd sy na vi le op0 tk0 : Int} (hd : 8 * k + 83 ≤ dd) (hW : Wk G A) (e_ln : G 9 = ln) (e_li : G 3 = li) (e_at0 : G 10 = at0) (e_fk : G 16 = fk) (e_nd : G 31 = nd) (e_sy : G 19 = sy) (e_na : G 28 = na) (e_vi : G 29 = vi) (e_le : A 4 (ln).toNat = le) (e_op0 : G 15 = op0) (e_tk0 : G 11 = tk0) (i_LT : LT G A) (i_SV : SV Vs sb G A) (i_PQ : PQ Vs sb pb G A) (h_lv : (-2147483648 : Int) ≤ lv ∧ lv ≤ 2147483647) (p_0 : 0 ≤ lv ∧ lv ≤ 15) (p_1 : 18 - lv ≤ ((k + 1 : Nat) : Int)) (p_2 : fk = 0) (p_3 : ln < li) (p_4 : at0 ≤ le) (p_5 : op0 = 0) (p_6 : nd ≤ 2 * at0 - tz tk0 + 30) (p_7 : sy ≤ na + 2) (p_8 : vi ≤ sy) (p_9 : sb = sy) : wk X dd 295 [.ref 66, .int (i32 lv)] (rV c0 c1 G A T) (fun o V' => ∃ (G' : Nat → Int) (A' : Nat → Nat → Int) (r : Int) (ln2 : Int) (at2 : Int) (fk2 : Int) (nd2 : Int) (sy2 : Int) (na2 : Int) (vi2 : Int) (lf2 : Int), V' = rV c0 c1 G' A' T ∧ o = .inl (some (.int (i32 r))) ∧ Wk G' A' ∧ Fr [9, 10, 11, 12, 13, 14, 15, 16, 17, 18, 19, 28, 29, 31] [6, 7, 8, 9, 10, 11, 12, 14, 15, 16, 17, 18, 19, 20, 21, 22, 23, 24, 28] G A G' A' ∧ Pf nd A A' ∧ Fx sr (sy) A A' ∧ Fx [14] (vi) A A' ∧ ((-2147483648 : Int) ≤ r ∧ r ≤ 2147483647) ∧ G' 9 = ln2 ∧ G' 10 = at2 ∧ G' 16 = fk2 ∧ G' 31 = nd2 ∧ G' 19 = sy2 ∧ G' 28 = na2 ∧ G' 29 = vi2 ∧ A' 3 (ln2).toNat = lf2 ∧ (at0 ≤ at2) ∧ (nd ≤ nd2) ∧ (sy ≤ sy2) ∧ (sy2 ≤ na2 + 2) ∧ (vi ≤ vi2) ∧ (vi2 ≤ vi + 1) ∧ (0 ≤ r) ∧ (r ≤ 6999) ∧ (ln ≤ ln2) ∧ (ln2 ≤ li) ∧ (((1 ≤ fk2) ∧ (nd2 - nd ≤ 2 * at2 - (2 * at0 - tz tk0) + 14)) ∨ ((fk2 = 0) ∧ (vi2 = vi) ∧ (ln < ln2) ∧ (nd2 - nd ≤ 2 * at2 - (2 * at0 - tz tk0)) ∧ (at2 < lf2 ∨ li ≤ ln2) ∧ (nd ≤ r) ∧ (r < nd2) ∧ (wSt A' (sy2) pb (wP A' (sy2) pb (k)) (Vs) (r) (nd) (nd2) (sy) (sy2)) ∧ (NX A' (r))))) := by
  obtain ⟨d, rfl⟩ : ∃ d, dd = d + 1 := ⟨dd - 1, by omega⟩
  refine wk_of (e := jm295) rfl (Nat.le_of_ble_eq_true rfl) ?_
  show wj X d jm295 (0, [(0, .ref 66), (1, .int (i32 (lv)))], [], rV c0 c1 G A T) _
  have hF0 : Fr [9, 10, 11, 12, 13, 14, 15, 16, 17, 18, 19, 28, 29, 31] [6, 7, 8, 9, 10, 11, 12, 14, 15, 16, 17, 18, 19, 20, 21, 22, 23, 24, 28] G A G A := Fr_rf
  have hP0 : Pf nd A A := Pf_rf
  have hS0 : Fx sr (sy) A A := Fx_rf
  have hV0 : Fx [14] (vi) A A := Fx_rf
  have b_ln : (0 : Int) ≤ ln ∧ ln ≤ 3000 := e_ln ▸ hW.1 9
  have b_li : (0 : Int) ≤ li ∧ li ≤ 3000 := e_li ▸ hW.1 3
  have b_at0 : (0 : Int) ≤ at0 ∧ at0 ≤ 3002 := e_at0 ▸ hW.1 10
  have b_fk : (0 : Int) ≤ fk ∧ fk ≤ 6 := e_fk ▸ hW.1 16
  have b_nd : (0 : Int) ≤ nd ∧ nd ≤ 6999 := e_nd ▸ hW.1 31
  have b_sy : (0 : Int) ≤ sy ∧ sy ≤ 202 := e_sy ▸ hW.1 19
  have b_na : (0 : Int) ≤ na ∧ na ≤ 200 := e_na ▸ hW.1 28
  have b_vi : (0 : Int) ≤ vi ∧ vi ≤ 202 := e_vi ▸ hW.1 29
  have b_le : (0 : Int) ≤ le ∧ le ≤ 3000 := e_le ▸ hW.2 4 _
  have b_op0 : (-2147483648 : Int) ≤ op0 ∧ op0 ≤ 2147483647 := e_op0 ▸ hW.1 15
  have z_tk0 := tz_f tk0
  have b_tk0 : (0 : Int) ≤ tk0 ∧ tk0 ≤ 5 := e_tk0 ▸ hW.1 11
  refine jx_ar (pc' := 1) (st' := [.int (i32 (0))]) rfl rfl rfl rfl ?_
  refine jx_ld (pc' := 2) (l' := jSto1 [(0, .ref 66), (1, .int (i32 (lv)))] 2 (.int (i32 (0)))) (st' := []) rfl rfl ?_
  obtain ⟨L1, eL1⟩ : ∃ q, q = jSto1 [(0, .ref 66), (1, .int (i32 (lv)))] 2 (.int (i32 (0))) := ⟨_, rfl⟩
  rw [← eL1]
  have gL1_0 : jGet L1 0 = some (.ref 66) := eL1 ▸ jg_ne (by decide) (rfl : jGet [(0, .ref 66), (1, .int (i32 (lv)))] 0 = some (.ref 66)) rfl
  have gL1_1 : jGet L1 1 = some (.int (i32 (lv))) := eL1 ▸ jg_ne (by decide) (rfl : jGet [(0, .ref 66), (1, .int (i32 (lv)))] 1 = some (.int (i32 (lv)))) rfl
  have gL1_2 : jGet L1 2 = some (.int (i32 (0))) := eL1 ▸ jg_eq
  refine jx_ld (pc' := 3) (l' := L1) (st' := [.ref 66]) rfl (jl_aloadn gL1_0) ?_
  have z2 := tz_f (tk0)
  refine jr_get (pc' := 6) (i := 11) (v := .int (i32 (tk0))) rfl rfl (by decide) (rFv_eq (by decide) (show G 11 = tk0 from (e_tk0))) rfl ?_
  refine jx_ar (pc' := 7) (st' := [.int (i32 (1)), .int (i32 (tk0))]) rfl rfl rfl rfl ?_
  refine jx_icmp_ne (pc' := 10) (tg := 15) rfl rfl rfl (Int.le_trans (by decide : (-2147483648 : Int) ≤ 0) b_tk0.1) (Int.le_trans b_tk0.2 (by decide : (5 : Int) ≤ 2147483647)) (by decide) (by decide) (fun h3 => ?_) (fun h3 => ?_)
  · have _q := h3
    refine jx_ld (pc' := 16) (l' := L1) (st' := [.ref 66]) rfl (jl_aloadn gL1_0) ?_
    have z4 := tz_f (tk0)
    refine jr_get (pc' := 19) (i := 11) (v := .int (i32 (tk0))) rfl rfl (by decide) (rFv_eq (by decide) (show G 11 = tk0 from (e_tk0))) rfl ?_
    refine jx_ar (pc' := 20) (st' := [.int (i32 (2)), .int (i32 (tk0))]) rfl rfl rfl rfl ?_
    refine jx_icmp_eq (pc' := 23) (tg := 34) rfl rfl rfl (Int.le_trans (by decide : (-2147483648 : Int) ≤ 0) b_tk0.1) (Int.le_trans b_tk0.2 (by decide : (5 : Int) ≤ 2147483647)) (by decide) (by decide) (fun h5 => ?_) (fun h5 => ?_)
    · have _q := h5
      refine jx_ld (pc' := 35) (l' := L1) (st' := [.ref 66]) rfl (jl_aloadn gL1_0) ?_
      have b6 : (-2147483648 : Int) ≤ G 13 ∧ G 13 ≤ 2147483647 := hW.1 13
      refine jr_get (pc' := 38) (i := 13) (v := .int (i32 (G 13))) rfl rfl (by decide) rfl rfl ?_
      refine jx_ld (pc' := 39) (l' := jSto1 L1 3 (.int (i32 (G 13)))) (st' := []) rfl rfl ?_
      obtain ⟨L7, eL7⟩ : ∃ q, q = jSto1 L1 3 (.int (i32 (G 13))) := ⟨_, rfl⟩
      rw [← eL7]
      have gL7_0 : jGet L7 0 = some (.ref 66) := eL7 ▸ jg_ne (by decide) gL1_0 rfl
      have gL7_1 : jGet L7 1 = some (.int (i32 (lv))) := eL7 ▸ jg_ne (by decide) gL1_1 rfl
      have gL7_2 : jGet L7 2 = some (.int (i32 (0))) := eL7 ▸ jg_ne (by decide) gL1_2 rfl
      have gL7_3 : jGet L7 3 = some (.int (i32 (G 13))) := eL7 ▸ jg_eq
      refine jx_ld (pc' := 40) (l' := L7) (st' := [.int (i32 (G 13))]) rfl (jl_iloadn gL7_3) ?_
      rcases (by omega : G 13 = 1 ∨ G 13 = 2 ∨ G 13 = 3 ∨ G 13 = 4 ∨ G 13 = 5 ∨ G 13 = 6 ∨ G 13 = 7 ∨ G 13 = 8 ∨ (G 13 < 1 ∨ 8 < G 13)) with h8 | h8 | h8 | h8 | h8 | h8 | h8 | h8 | h8
      · refine jx_swe (z := 1) (tg := 120) h8 rfl rfl rfl rfl ?_
        refine jx_ld (pc' := 121) (l' := L7) (st' := [.ref 66]) rfl (jl_aloadn gL7_0) ?_
        refine jx_ld (pc' := 122) (l' := L7) (st' := [.int (i32 (lv)), .ref 66]) rfl (jl_iloadn gL7_1) ?_
        refine jx_vr (pc' := 125) (as := [.int (i32 (lv))]) (st := []) rfl rfl rfl rfl ⟨rfl, rfl, Nat.le_of_ble_eq_true rfl⟩ rfl rfl (c_readSeq (dd := d) (hP := hP) (hd := by omega) (hW := hW) (lv := lv) (ln := ln) (e_ln := show G 9 = ln from (e_ln)) (li := li) (e_li := show G 3 = li from (e_li)) (at0 := at0) (e_at0 := show G 10 = at0 from (e_at0)) (fk := fk) (e_fk := show G 16 = fk from (e_fk)) (nd := nd) (e_nd := show G 31 = nd from (e_nd)) (sy := sy) (e_sy := show G 19 = sy from (e_sy)) (na := na) (e_na := show G 28 = na from (e_na)) (vi := vi) (e_vi := show G 29 = vi from (e_vi)) (le := le) (e_le := show A 4 (ln).toNat = le from (e_le)) (op0 := op0) (e_op0 := show G 15 = op0 from (e_op0)) (tk0 := tk0) (e_tk0 := show G 11 = tk0 from (e_tk0)) (i_LT := (LT_ext (rfl) (rfl) (rfl) i_LT)) (i_SV := (SV_fx i_SV e_vi (show G 29 = vi from (e_vi)) (by omega) hV0)) (i_PQ := (PQ_fx i_PQ hS0 (by omega) (hF0.2 29 rfl) (hF0.2 30 rfl))) (hvb := hvb) (h_lv := ⟨(Int.le_trans (by decide : (-2147483648 : Int) ≤ -2147483648) h_lv.1), (Int.le_trans h_lv.2 (by decide : (2147483647 : Int) ≤ 2147483647))⟩)  (p_0 := by omega) (p_1 := by omega) (p_2 := by omega) (p_3 := by omega) (p_4 := by omega) (p_5 := by omega) (p_6 := by omega) (p_7 := by omega) (p_8 := by omega) (p_9 := by omega) (p_10 := by omega)) (fun o V' hq => ?_)
        obtain ⟨G9, A10, r11, ln2_12, at2_13, fk2_14, nd2_15, sy2_16, na2_17, vi2_18, lf2_19, rfl, rfl, hW20, hF21, hQ22, hQ23, hQ24, b25, e26, e27, e28, e29, e30, e31, e32, e33, p34, p35, p36, p37, p38, p39, p40, p41, p42, p43, q44⟩ := hq
        have hF45 := Fr_tr hF0 hF21 (Fr_sub (by decide)) (Fr_sub (by decide))
        have hP46 := Pf_tr hP0 hQ22 (by omega)
        have hS47 := Fx_tr hS0 hQ23 (by omega)
        have hV48 := Fx_tr hV0 hQ24 (by omega)
        have bln2_12 : (0 : Int) ≤ ln2_12 ∧ ln2_12 ≤ 3000 := e26 ▸ hW20.1 9
        have bat2_13 : (0 : Int) ≤ at2_13 ∧ at2_13 ≤ 3002 := e27 ▸ hW20.1 10
        have bfk2_14 : (0 : Int) ≤ fk2_14 ∧ fk2_14 ≤ 6 := e28 ▸ hW20.1 16
        have bnd2_15 : (0 : Int) ≤ nd2_15 ∧ nd2_15 ≤ 6999 := e29 ▸ hW20.1 31
        have bsy2_16 : (0 : Int) ≤ sy2_16 ∧ sy2_16 ≤ 202 := e30 ▸ hW20.1 19
        have bna2_17 : (0 : Int) ≤ na2_17 ∧ na2_17 ≤ 200 := e31 ▸ hW20.1 28
        have bvi2_18 : (0 : Int) ≤ vi2_18 ∧ vi2_18 ≤ 202 := e32 ▸ hW20.1 29
        have blf2_19 : (0 : Int) ≤ lf2_19 ∧ lf2_19 ≤ 3000 := e33 ▸ hW20.2 3 _
        refine .inr ⟨_, rfl, ?_⟩
        rcases q44 with ⟨a49, a50⟩ | ⟨a51, a52, a53, a54, a55, a56, a57, a58, a59⟩
        · have _q : True := trivial
          refine jx_rt (v := some (.int (i32 (r11)))) rfl rfl rfl rfl rfl rfl ?_
          exact ⟨_, _, _, ln2_12, at2_13, fk2_14, nd2_15, sy2_16, na2_17, vi2_18, lf2_19, rfl, rfl, hW20, hF45, hP46, hS47, hV48, by omega, (e26), (e27), (e28), (e29), (e30), (e31), (e32), (e33), by omega, by omega, by omega, by omega, by omega, by omega, by omega, by omega, by omega, by omega, by first | exact Or.inl (⟨by omega, by omega⟩)⟩
        · have _q : True := trivial
          refine jx_rt (v := some (.int (i32 (r11)))) rfl rfl rfl rfl rfl rfl ?_
          exact ⟨_, _, _, ln2_12, at2_13, fk2_14, nd2_15, sy2_16, na2_17, vi2_18, lf2_19, rfl, rfl, hW20, hF45, hP46, hS47, hV48, by omega, (e26), (e27), (e28), (e29), (e30), (e31), (e32), (e33), by omega, by omega, by omega, by omega, by omega, by omega, by omega, by omega, by omega, by omega, by first | exact Or.inr ((⟨by omega, by omega, by omega, by omega, by omega, by omega, by omega, a58, a59⟩))⟩
      · refine jx_swe (z := 2) (tg := 186) h8 rfl rfl rfl rfl ?_
        refine jx_ld (pc' := 187) (l' := L7) (st' := [.ref 66]) rfl (jl_aloadn gL7_0) ?_
        refine jx_ld (pc' := 188) (l' := L7) (st' := [.int (i32 (lv)), .ref 66]) rfl (jl_iloadn gL7_1) ?_
        refine jx_vr (pc' := 191) (as := [.int (i32 (lv))]) (st := []) rfl rfl rfl rfl ⟨rfl, rfl, Nat.le_of_ble_eq_true rfl⟩ rfl rfl (c_readPar (dd := d) (hP := hP) (hd := by omega) (hW := hW) (lv := lv) (ln := ln) (e_ln := show G 9 = ln from (e_ln)) (li := li) (e_li := show G 3 = li from (e_li)) (at0 := at0) (e_at0 := show G 10 = at0 from (e_at0)) (fk := fk) (e_fk := show G 16 = fk from (e_fk)) (nd := nd) (e_nd := show G 31 = nd from (e_nd)) (sy := sy) (e_sy := show G 19 = sy from (e_sy)) (na := na) (e_na := show G 28 = na from (e_na)) (vi := vi) (e_vi := show G 29 = vi from (e_vi)) (le := le) (e_le := show A 4 (ln).toNat = le from (e_le)) (op0 := op0) (e_op0 := show G 15 = op0 from (e_op0)) (tk0 := tk0) (e_tk0 := show G 11 = tk0 from (e_tk0)) (i_LT := (LT_ext (rfl) (rfl) (rfl) i_LT)) (i_SV := (SV_fx i_SV e_vi (show G 29 = vi from (e_vi)) (by omega) hV0)) (i_PQ := (PQ_fx i_PQ hS0 (by omega) (hF0.2 29 rfl) (hF0.2 30 rfl))) (hvb := hvb) (h_lv := ⟨(Int.le_trans (by decide : (-2147483648 : Int) ≤ -2147483648) h_lv.1), (Int.le_trans h_lv.2 (by decide : (2147483647 : Int) ≤ 2147483647))⟩)  (p_0 := by omega) (p_1 := by omega) (p_2 := by omega) (p_3 := by omega) (p_4 := by omega) (p_5 := by omega) (p_6 := by omega) (p_7 := by omega) (p_8 := by omega) (p_9 := by omega) (p_10 := by omega)) (fun o V' hq => ?_)
        obtain ⟨G60, A61, r62, ln2_63, at2_64, fk2_65, nd2_66, sy2_67, na2_68, vi2_69, lf2_70, rfl, rfl, hW71, hF72, hQ73, hQ74, hQ75, b76, e77, e78, e79, e80, e81, e82, e83, e84, p85, p86, p87, p88, p89, p90, p91, p92, p93, p94, q95⟩ := hq
        have hF96 := Fr_tr hF0 hF72 (Fr_sub (by decide)) (Fr_sub (by decide))
        have hP97 := Pf_tr hP0 hQ73 (by omega)
        have hS98 := Fx_tr hS0 hQ74 (by omega)
        have hV99 := Fx_tr hV0 hQ75 (by omega)
        have bln2_63 : (0 : Int) ≤ ln2_63 ∧ ln2_63 ≤ 3000 := e77 ▸ hW71.1 9
        have bat2_64 : (0 : Int) ≤ at2_64 ∧ at2_64 ≤ 3002 := e78 ▸ hW71.1 10
        have bfk2_65 : (0 : Int) ≤ fk2_65 ∧ fk2_65 ≤ 6 := e79 ▸ hW71.1 16
        have bnd2_66 : (0 : Int) ≤ nd2_66 ∧ nd2_66 ≤ 6999 := e80 ▸ hW71.1 31
        have bsy2_67 : (0 : Int) ≤ sy2_67 ∧ sy2_67 ≤ 202 := e81 ▸ hW71.1 19
        have bna2_68 : (0 : Int) ≤ na2_68 ∧ na2_68 ≤ 200 := e82 ▸ hW71.1 28
        have bvi2_69 : (0 : Int) ≤ vi2_69 ∧ vi2_69 ≤ 202 := e83 ▸ hW71.1 29
        have blf2_70 : (0 : Int) ≤ lf2_70 ∧ lf2_70 ≤ 3000 := e84 ▸ hW71.2 3 _
        refine .inr ⟨_, rfl, ?_⟩
        rcases q95 with ⟨a100, a101⟩ | ⟨a102, a103, a104, a105, a106, a107, a108, a109, a110⟩
        · have _q : True := trivial
          refine jx_rt (v := some (.int (i32 (r62)))) rfl rfl rfl rfl rfl rfl ?_
          exact ⟨_, _, _, ln2_63, at2_64, fk2_65, nd2_66, sy2_67, na2_68, vi2_69, lf2_70, rfl, rfl, hW71, hF96, hP97, hS98, hV99, by omega, (e77), (e78), (e79), (e80), (e81), (e82), (e83), (e84), by omega, by omega, by omega, by omega, by omega, by omega, by omega, by omega, by omega, by omega, by first | exact Or.inl (⟨by omega, by omega⟩)⟩
        · have _q : True := trivial
          refine jx_rt (v := some (.int (i32 (r62)))) rfl rfl rfl rfl rfl rfl ?_
          exact ⟨_, _, _, ln2_63, at2_64, fk2_65, nd2_66, sy2_67, na2_68, vi2_69, lf2_70, rfl, rfl, hW71, hF96, hP97, hS98, hV99, by omega, (e77), (e78), (e79), (e80), (e81), (e82), (e83), (e84), by omega, by omega, by omega, by omega, by omega, by omega, by omega, by omega, by omega, by omega, by first | exact Or.inr ((⟨by omega, by omega, by omega, by omega, by omega, by omega, by omega, a109, a110⟩))⟩
      · refine jx_swe (z := 3) (tg := 126) h8 rfl rfl rfl rfl ?_
        refine jx_ld (pc' := 127) (l' := L7) (st' := [.ref 66]) rfl (jl_aloadn gL7_0) ?_
        refine jx_vr (pc' := 130) (as := []) (st := []) rfl rfl rfl rfl ⟨rfl, rfl, Nat.le_of_ble_eq_true rfl⟩ rfl rfl (c_next (dd := d) (hd := by omega) (hW := hW)  (ln := ln) (e_ln := show G 9 = ln from (e_ln)) (le := le) (e_le := show A 4 (ln).toNat = le from (e_le)) (at0 := at0) (e_at0 := show G 10 = at0 from (e_at0))    (p_0 := by omega)) (fun o V' hq => ?_)
        obtain ⟨G111, A112, at2_113, tk2_114, rfl, rfl, hW115, hF116, e117, e118, p119, p120, p121, -⟩ := hq
        have hF123 := Fr_tr hF0 hF116 (Fr_sub (by decide)) (Fr_sub (by decide))
        have hP124 := Pf_f hP0 hF116 (by decide)
        have hS125 := Fx_f hS0 hF116 (by decide)
        have hV126 := Fx_f hV0 hF116 (by decide)
        have bat2_113 : (0 : Int) ≤ at2_113 ∧ at2_113 ≤ 3002 := e117 ▸ hW115.1 10
        have ztk2_114 := tz_b tk2_114
        have btk2_114 : (0 : Int) ≤ tk2_114 ∧ tk2_114 ≤ 5 := e118 ▸ hW115.1 11
        refine .inl ⟨rfl, ?_⟩
        refine jx_ld (pc' := 131) (l' := L7) (st' := [.ref 66]) rfl (jl_aloadn gL7_0) ?_
        refine jx_vr (pc' := 134) (as := []) (st := []) rfl rfl rfl rfl ⟨rfl, rfl, Nat.le_of_ble_eq_true rfl⟩ rfl rfl (c_bad (dd := d) (hd := by omega) (hW := hW115)  (fk := fk) (e_fk := show G111 16 = fk from ((hF116.1 16 rfl).trans (e_fk)))    ) (fun o V' hq => ?_)
        obtain ⟨r127, rfl, rfl, b128, q129⟩ := hq
        refine .inr ⟨_, rfl, ?_⟩
        rcases q129 with ⟨rfl, a130⟩ | ⟨rfl, a131⟩
        · have _q : True := trivial
          exfalso
          omega
        · have _q : True := trivial
          refine jx_if_ne (pc' := 137) (tg := 156) rfl rfl rfl (by decide) (by decide) (fun h132 => ?_) (fun h132 => ?_)
          · have _q := h132
            exact absurd h132 (by omega)
          · have _q := h132
            refine jx_ld (pc' := 138) (l' := L7) (st' := [.ref 66]) rfl (jl_aloadn gL7_0) ?_
            refine jx_ar (pc' := 139) (st' := [.int (i32 (2)), .ref 66]) rfl rfl rfl rfl ?_
            have b133 : (-2147483648 : Int) ≤ G111 13 ∧ G111 13 ≤ 2147483647 := hW115.1 13
            refine jx_vr (pc' := 142) (as := [.int (i32 (2))]) (st := []) rfl rfl rfl rfl ⟨rfl, rfl, Nat.le_of_ble_eq_true rfl⟩ rfl rfl (c_isKey (dd := d) (hd := by omega) (hW := hW115) (k := 2) (tk := tk2_114) (e_tk := show G111 11 = tk2_114 from (e118)) (tn := G111 13) (e_tn := show G111 13 = G111 13 from rfl)  (h_k := ⟨(by decide), (by decide)⟩)  ) (fun o V' hq => ?_)
            obtain ⟨r134, rfl, rfl, b135, q136⟩ := hq
            refine .inr ⟨_, rfl, ?_⟩
            rcases q136 with ⟨rfl, a137, a138, a139⟩ | rfl
            · have _q : True := trivial
              refine jx_if_ne (pc' := 145) (tg := 156) rfl rfl rfl (by decide) (by decide) (fun h140 => ?_) (fun h140 => ?_)
              · have _q := h140
                refine jx_ld (pc' := 157) (l' := L7) (st' := [.ref 66]) rfl (jl_aloadn gL7_0) ?_
                refine jx_ar (pc' := 159) (st' := [.int (i32 (28)), .ref 66]) rfl rfl rfl rfl ?_
                refine jx_ar (pc' := 160) (st' := [.int (i32 (1)), .int (i32 (28)), .ref 66]) rfl rfl rfl rfl ?_
                refine jx_ar (pc' := 161) (st' := [.int (i32 (0)), .int (i32 (1)), .int (i32 (28)), .ref 66]) rfl rfl rfl rfl ?_
                refine jx_ar (pc' := 162) (st' := [.int (i32 (0)), .int (i32 (0)), .int (i32 (1)), .int (i32 (28)), .ref 66]) rfl rfl rfl rfl ?_
                refine jx_ar (pc' := 163) (st' := [.int (i32 (0)), .int (i32 (0)), .int (i32 (0)), .int (i32 (1)), .int (i32 (28)), .ref 66]) rfl rfl rfl rfl ?_
                refine jx_vr (pc' := 166) (as := [.int (i32 (28)), .int (i32 (1)), .int (i32 (0)), .int (i32 (0)), .int (i32 (0))]) (st := []) rfl rfl rfl rfl ⟨rfl, rfl, Nat.le_of_ble_eq_true rfl⟩ rfl rfl (c_node (dd := d) (hd := by omega) (hW := hW115) (kind := 28) (a := 1) (b := 0) (c := 0) (e := 0) (nd := nd) (e_nd := show G111 31 = nd from ((hF116.1 31 rfl).trans (e_nd)))  (h_kind := ⟨(by decide), (by decide)⟩) (h_a := ⟨(by decide), (by decide)⟩) (h_b := ⟨(by decide), (by decide)⟩) (h_c := ⟨(by decide), (by decide)⟩) (h_e := ⟨(by decide), (by decide)⟩)  (p_0 := by omega) (p_1 := by omega)) (fun o V' hq => ?_)
                obtain ⟨G141, A142, nd2_143, rfl, rfl, hW144, hF145, hQ146, e147, p148, p149, -⟩ := hq
                have hF151 := Fr_tr hF123 hF145 (Fr_sub (by decide)) (Fr_sub (by decide))
                have hP152 := Pf_tr hP124 hQ146 (by omega)
                have hS153 := Fx_f hS125 hF145 (by decide)
                have hV154 := Fx_f hV126 hF145 (by decide)
                have bnd2_143 : (0 : Int) ≤ nd2_143 ∧ nd2_143 ≤ 6999 := e147 ▸ hW144.1 31
                refine .inr ⟨_, rfl, ?_⟩
                refine jx_ld (pc' := 167) (l' := jSto1 L7 2 (.int (i32 (nd)))) (st' := []) rfl rfl ?_
                obtain ⟨L155, eL155⟩ : ∃ q, q = jSto1 L7 2 (.int (i32 (nd))) := ⟨_, rfl⟩
                rw [← eL155]
                have gL155_0 : jGet L155 0 = some (.ref 66) := eL155 ▸ jg_ne (by decide) gL7_0 rfl
                have gL155_1 : jGet L155 1 = some (.int (i32 (lv))) := eL155 ▸ jg_ne (by decide) gL7_1 rfl
                have gL155_3 : jGet L155 3 = some (.int (i32 (G 13))) := eL155 ▸ jg_ne (by decide) gL7_3 rfl
                have gL155_2 : jGet L155 2 = some (.int (i32 (nd))) := eL155 ▸ jg_eq
                refine jx_ld (pc' := 168) (l' := L155) (st' := [.ref 66]) rfl (jl_aloadn gL155_0) ?_
                refine jx_ar (pc' := 169) (st' := [.int (i32 (1)), .ref 66]) rfl rfl rfl rfl ?_
                refine jx_vr (pc' := 172) (as := [.int (i32 (1))]) (st := []) rfl rfl rfl rfl ⟨rfl, rfl, Nat.le_of_ble_eq_true rfl⟩ rfl rfl (c_need (dd := d) (hd := by omega) (hW := hW144) (g := 1) (ln := ln) (e_ln := show G141 9 = ln from ((hF145.1 9 rfl).trans ((hF116.1 9 rfl).trans (e_ln)))) (le := le) (e_le := show A142 4 (ln).toNat = le from (congrFun ((hF145.2 4 rfl).trans (hF116.2 4 rfl)) _).trans (e_le)) (at0 := at2_113) (e_at0 := show G141 10 = at2_113 from ((hF145.1 10 rfl).trans (e117))) (fk := fk) (e_fk := show G141 16 = fk from ((hF145.1 16 rfl).trans ((hF116.1 16 rfl).trans (e_fk)))) (tk0 := tk2_114) (e_tk0 := show G141 11 = tk2_114 from ((hF145.1 11 rfl).trans (e118)))  (h_g := ⟨(by decide), (by decide)⟩)  (p_0 := by omega)) (fun o V' hq => ?_)
                obtain ⟨G156, A157, at2_158, tk2_159, fk2_160, rfl, rfl, hW161, hF162, e163, e164, e165, p166, p167, q168⟩ := hq
                have hF169 := Fr_tr hF151 hF162 (Fr_sub (by decide)) (Fr_sub (by decide))
                have hP170 := Pf_f hP152 hF162 (by decide)
                have hS171 := Fx_f hS153 hF162 (by decide)
                have hV172 := Fx_f hV154 hF162 (by decide)
                have sf173 : ND A157 (nd) (28) (1) (0) (0) (0) (0) (0) := ND_ag (by omega) (Ag_fr hF162 (by decide)) p149
                have bat2_158 : (0 : Int) ≤ at2_158 ∧ at2_158 ≤ 3002 := e163 ▸ hW161.1 10
                have ztk2_159 := tz_b tk2_159
                have btk2_159 : (0 : Int) ≤ tk2_159 ∧ tk2_159 ≤ 5 := e164 ▸ hW161.1 11
                have bfk2_160 : (0 : Int) ≤ fk2_160 ∧ fk2_160 ≤ 6 := e165 ▸ hW161.1 16
                refine .inl ⟨rfl, ?_⟩
                rcases q168 with ⟨a174, a175, a176, a177⟩ | ⟨a178, a179, a180, a181⟩
                · have _q : True := trivial
                  refine jx_ld (pc' := 173) (l' := L155) (st' := [.ref 66]) rfl (jl_aloadn gL155_0) ?_
                  refine jx_vr (pc' := 176) (as := []) (st := []) rfl rfl rfl rfl ⟨rfl, rfl, Nat.le_of_ble_eq_true rfl⟩ rfl rfl (c_endLine (dd := d) (hd := by omega) (hW := hW161)  (ln := ln) (e_ln := show G156 9 = ln from ((hF162.1 9 rfl).trans ((hF145.1 9 rfl).trans ((hF116.1 9 rfl).trans (e_ln))))) (li := li) (e_li := show G156 3 = li from ((hF162.1 3 rfl).trans ((hF145.1 3 rfl).trans ((hF116.1 3 rfl).trans (e_li))))) (fk := fk2_160) (e_fk := show G156 16 = fk2_160 from (e165)) (tk0 := tk2_159) (e_tk0 := show G156 11 = tk2_159 from (e164))    (p_0 := by omega)) (fun o V' hq => ?_)
                  obtain ⟨G182, A183, ln2_184, fk2_185, rfl, rfl, hW186, hF187, e188, e189, q190⟩ := hq
                  have hF191 := Fr_tr hF169 hF187 (Fr_sub (by decide)) (Fr_sub (by decide))
                  have hP192 := Pf_f hP170 hF187 (by decide)
                  have hS193 := Fx_f hS171 hF187 (by decide)
                  have hV194 := Fx_f hV172 hF187 (by decide)
                  have sf195 : ND A183 (nd) (28) (1) (0) (0) (0) (0) (0) := ND_ag (by omega) (Ag_fr hF187 (by decide)) sf173
                  have bln2_184 : (0 : Int) ≤ ln2_184 ∧ ln2_184 ≤ 3000 := e188 ▸ hW186.1 9
                  have bfk2_185 : (0 : Int) ≤ fk2_185 ∧ fk2_185 ≤ 6 := e189 ▸ hW186.1 16
                  refine .inl ⟨rfl, ?_⟩
                  rcases q190 with ⟨a196, a197, a198, a199, a200⟩ | ⟨a201, a202⟩
                  · have _q : True := trivial
                    exfalso
                    omega
                  · have _q : True := trivial
                    refine jx_ld (pc' := 177) (l' := L155) (st' := [.ref 66]) rfl (jl_aloadn gL155_0) ?_
                    refine jx_ld (pc' := 178) (l' := L155) (st' := [.int (i32 (nd)), .ref 66]) rfl (jl_iloadn gL155_2) ?_
                    refine jx_ld (pc' := 179) (l' := L155) (st' := [.int (i32 (lv)), .int (i32 (nd)), .ref 66]) rfl (jl_iloadn gL155_1) ?_
                    refine jx_ar (pc' := 180) (st' := [.int (i32 (2)), .int (i32 (lv)), .int (i32 (nd)), .ref 66]) rfl rfl rfl rfl ?_
                    refine jx_ar (pc' := 181) (st' := [.int (i32 (2)), .int (i32 (2)), .int (i32 (lv)), .int (i32 (nd)), .ref 66]) rfl rfl rfl rfl ?_
                    refine jx_vr (pc' := 184) (as := [.int (i32 (nd)), .int (i32 (lv)), .int (i32 (2)), .int (i32 (2))]) (st := []) rfl rfl rfl rfl ⟨rfl, rfl, Nat.le_of_ble_eq_true rfl⟩ rfl rfl (c_readChildren_f (dd := d) (zz := nd) (hd := by omega) (hW := hW186) (n := nd) (lv := lv) (least := 2) (mo := 2) (fk := fk2_185) (e_fk := show G182 16 = fk2_185 from (e189))  (h_n := ⟨(Int.le_trans (by decide : (-2147483648 : Int) ≤ 0) b_nd.1), (Int.le_trans b_nd.2 (by decide : (6999 : Int) ≤ 2147483647))⟩) (h_lv := ⟨(Int.le_trans (by decide : (-2147483648 : Int) ≤ -2147483648) h_lv.1), (Int.le_trans h_lv.2 (by decide : (2147483647 : Int) ≤ 2147483647))⟩) (h_least := ⟨(by decide), (by decide)⟩) (h_mo := ⟨(by decide), (by decide)⟩)  (p_0 := by omega) (p_1 := by omega) (p_2 := by omega) (p_3 := by omega)) (fun o V' hq => ?_)
                    obtain ⟨G203, A204, fk2_205, rfl, rfl, hW206, hF207, hQ208, e209, p210, -⟩ := hq
                    have hF212 := Fr_tr hF191 hF207 (Fr_sub (by decide)) (Fr_sub (by decide))
                    have hP213 := Pf_tr hP192 hQ208 (by omega)
                    have hS214 := Fx_f hS193 hF207 (by decide)
                    have hV215 := Fx_f hV194 hF207 (by decide)
                    have bfk2_205 : (0 : Int) ≤ fk2_205 ∧ fk2_205 ≤ 6 := e209 ▸ hW206.1 16
                    refine .inl ⟨rfl, ?_⟩
                    refine jx_ld (pc' := 185) (l' := L155) (st' := [.int (i32 (nd))]) rfl (jl_iloadn gL155_2) ?_
                    refine jx_rt (v := some (.int (i32 (nd)))) rfl rfl rfl rfl rfl rfl ?_
                    exact ⟨_, _, _, ln2_184, at2_158, fk2_205, nd2_143, sy, na, vi, A 3 (ln2_184).toNat, rfl, rfl, hW206, hF212, hP213, hS214, hV215, by omega, ((hF207.1 9 rfl).trans (e188)), ((hF207.1 10 rfl).trans ((hF187.1 10 rfl).trans (e163))), (e209), ((hF207.1 31 rfl).trans ((hF187.1 31 rfl).trans ((hF162.1 31 rfl).trans (e147)))), ((hF207.1 19 rfl).trans ((hF187.1 19 rfl).trans ((hF162.1 19 rfl).trans ((hF145.1 19 rfl).trans ((hF116.1 19 rfl).trans (e_sy)))))), ((hF207.1 28 rfl).trans ((hF187.1 28 rfl).trans ((hF162.1 28 rfl).trans ((hF145.1 28 rfl).trans ((hF116.1 28 rfl).trans (e_na)))))), ((hF207.1 29 rfl).trans ((hF187.1 29 rfl).trans ((hF162.1 29 rfl).trans ((hF145.1 29 rfl).trans ((hF116.1 29 rfl).trans (e_vi)))))), (congrFun ((hF207.2 3 rfl).trans ((hF187.2 3 rfl).trans ((hF162.2 3 rfl).trans ((hF145.2 3 rfl).trans (hF116.2 3 rfl))))) _), by omega, by omega, by omega, by omega, by omega, by omega, by omega, by omega, by omega, by omega, by first | exact Or.inl (⟨by omega, by omega⟩)⟩
                · have _q : True := trivial
                  refine jx_ld (pc' := 173) (l' := L155) (st' := [.ref 66]) rfl (jl_aloadn gL155_0) ?_
                  refine jx_vr (pc' := 176) (as := []) (st := []) rfl rfl rfl rfl ⟨rfl, rfl, Nat.le_of_ble_eq_true rfl⟩ rfl rfl (c_endLine (dd := d) (hd := by omega) (hW := hW161)  (ln := ln) (e_ln := show G156 9 = ln from ((hF162.1 9 rfl).trans ((hF145.1 9 rfl).trans ((hF116.1 9 rfl).trans (e_ln))))) (li := li) (e_li := show G156 3 = li from ((hF162.1 3 rfl).trans ((hF145.1 3 rfl).trans ((hF116.1 3 rfl).trans (e_li))))) (fk := fk2_160) (e_fk := show G156 16 = fk2_160 from (e165)) (tk0 := tk2_159) (e_tk0 := show G156 11 = tk2_159 from (e164))    (p_0 := by omega)) (fun o V' hq => ?_)
                  obtain ⟨G216, A217, ln2_218, fk2_219, rfl, rfl, hW220, hF221, e222, e223, q224⟩ := hq
                  have hF225 := Fr_tr hF169 hF221 (Fr_sub (by decide)) (Fr_sub (by decide))
                  have hP226 := Pf_f hP170 hF221 (by decide)
                  have hS227 := Fx_f hS171 hF221 (by decide)
                  have hV228 := Fx_f hV172 hF221 (by decide)
                  have sf229 : ND A217 (nd) (28) (1) (0) (0) (0) (0) (0) := ND_ag (by omega) (Ag_fr hF221 (by decide)) sf173
                  have bln2_218 : (0 : Int) ≤ ln2_218 ∧ ln2_218 ≤ 3000 := e222 ▸ hW220.1 9
                  have bfk2_219 : (0 : Int) ≤ fk2_219 ∧ fk2_219 ≤ 6 := e223 ▸ hW220.1 16
                  refine .inl ⟨rfl, ?_⟩
                  rcases q224 with ⟨a230, a231, a232, a233, a234⟩ | ⟨a235, a236⟩
                  · have _q : True := trivial
                    have b237 : (0 : Int) ≤ A 3 (ln2_218).toNat ∧ A 3 (ln2_218).toNat ≤ 3000 := hW.2 3 _
                    have lt238 : ln2_218 < li → le < A 3 (ln2_218).toNat := fun hh => LT_nx (LT_ext (((hF221.1 3 rfl).trans ((hF162.1 3 rfl).trans ((hF145.1 3 rfl).trans (hF116.1 3 rfl))))) (((hF221.2 3 rfl).trans ((hF162.2 3 rfl).trans ((hF145.2 3 rfl).trans (hF116.2 3 rfl))))) (((hF221.2 4 rfl).trans ((hF162.2 4 rfl).trans ((hF145.2 4 rfl).trans (hF116.2 4 rfl))))) i_LT) (show G216 3 = li from ((hF221.1 3 rfl).trans ((hF162.1 3 rfl).trans ((hF145.1 3 rfl).trans ((hF116.1 3 rfl).trans (e_li)))))) (show A217 4 (ln).toNat = le from (congrFun ((hF221.2 4 rfl).trans ((hF162.2 4 rfl).trans ((hF145.2 4 rfl).trans (hF116.2 4 rfl)))) _).trans (e_le)) (show A217 3 (ln2_218).toNat = A 3 (ln2_218).toNat from (congrFun ((hF221.2 3 rfl).trans ((hF162.2 3 rfl).trans ((hF145.2 3 rfl).trans (hF116.2 3 rfl)))) _)) (show ln2_218 = ln + 1 by omega) (by omega) hh
                    refine jx_ld (pc' := 177) (l' := L155) (st' := [.ref 66]) rfl (jl_aloadn gL155_0) ?_
                    refine jx_ld (pc' := 178) (l' := L155) (st' := [.int (i32 (nd)), .ref 66]) rfl (jl_iloadn gL155_2) ?_
                    refine jx_ld (pc' := 179) (l' := L155) (st' := [.int (i32 (lv)), .int (i32 (nd)), .ref 66]) rfl (jl_iloadn gL155_1) ?_
                    refine jx_ar (pc' := 180) (st' := [.int (i32 (2)), .int (i32 (lv)), .int (i32 (nd)), .ref 66]) rfl rfl rfl rfl ?_
                    refine jx_ar (pc' := 181) (st' := [.int (i32 (2)), .int (i32 (2)), .int (i32 (lv)), .int (i32 (nd)), .ref 66]) rfl rfl rfl rfl ?_
                    refine jx_vr (pc' := 184) (as := [.int (i32 (nd)), .int (i32 (lv)), .int (i32 (2)), .int (i32 (2))]) (st := []) rfl rfl rfl rfl ⟨rfl, rfl, Nat.le_of_ble_eq_true rfl⟩ rfl rfl (c_readChildren (dd := d) (hP := hP) (zz := nd) (hd := by omega) (hW := hW220) (n := nd) (lv := lv) (least := 2) (mo := 2) (kk := 28) (aa := 1) (bb := 0) (cc := 0) (de := 0) (xx := 0) (ln := ln2_218) (e_ln := show G216 9 = ln2_218 from (e222)) (li := li) (e_li := show G216 3 = li from ((hF221.1 3 rfl).trans ((hF162.1 3 rfl).trans ((hF145.1 3 rfl).trans ((hF116.1 3 rfl).trans (e_li)))))) (at0 := at2_158) (e_at0 := show G216 10 = at2_158 from ((hF221.1 10 rfl).trans (e163))) (fk := fk2_219) (e_fk := show G216 16 = fk2_219 from (e223)) (nd := nd2_143) (e_nd := show G216 31 = nd2_143 from ((hF221.1 31 rfl).trans ((hF162.1 31 rfl).trans (e147)))) (sy := sy) (e_sy := show G216 19 = sy from ((hF221.1 19 rfl).trans ((hF162.1 19 rfl).trans ((hF145.1 19 rfl).trans ((hF116.1 19 rfl).trans (e_sy)))))) (na := na) (e_na := show G216 28 = na from ((hF221.1 28 rfl).trans ((hF162.1 28 rfl).trans ((hF145.1 28 rfl).trans ((hF116.1 28 rfl).trans (e_na)))))) (vi := vi) (e_vi := show G216 29 = vi from ((hF221.1 29 rfl).trans ((hF162.1 29 rfl).trans ((hF145.1 29 rfl).trans ((hF116.1 29 rfl).trans (e_vi)))))) (lf := A 3 (ln2_218).toNat) (e_lf := show A217 3 (ln2_218).toNat = A 3 (ln2_218).toNat from (congrFun ((hF221.2 3 rfl).trans ((hF162.2 3 rfl).trans ((hF145.2 3 rfl).trans (hF116.2 3 rfl)))) _)) (i_LT := (LT_ext (((hF221.1 3 rfl).trans ((hF162.1 3 rfl).trans ((hF145.1 3 rfl).trans (hF116.1 3 rfl))))) (((hF221.2 3 rfl).trans ((hF162.2 3 rfl).trans ((hF145.2 3 rfl).trans (hF116.2 3 rfl))))) (((hF221.2 4 rfl).trans ((hF162.2 4 rfl).trans ((hF145.2 4 rfl).trans (hF116.2 4 rfl))))) i_LT)) (i_SV := (SV_fx i_SV e_vi (show G216 29 = vi from ((hF221.1 29 rfl).trans ((hF162.1 29 rfl).trans ((hF145.1 29 rfl).trans ((hF116.1 29 rfl).trans (e_vi)))))) (by omega) hV228)) (i_PQ := (PQ_fx i_PQ hS227 (by omega) (hF225.2 29 rfl) (hF225.2 30 rfl))) (hvb := hvb) (h_n := ⟨(Int.le_trans (by decide : (-2147483648 : Int) ≤ 0) b_nd.1), (Int.le_trans b_nd.2 (by decide : (6999 : Int) ≤ 2147483647))⟩) (h_lv := ⟨(Int.le_trans (by decide : (-2147483648 : Int) ≤ -2147483648) h_lv.1), (Int.le_trans h_lv.2 (by decide : (2147483647 : Int) ≤ 2147483647))⟩) (h_least := ⟨(by decide), (by decide)⟩) (h_mo := ⟨(by decide), (by decide)⟩)  (p_0 := by omega) (p_1 := by omega) (p_2 := by omega) (p_3 := by omega) (p_4 := by omega) (p_5 := by omega) (p_6 := by omega) (p_7 := by omega) (p_8 := by omega) (p_9 := by omega) (p_10 := by omega) (p_11 := by omega) (p_12 := by omega) (p_13 := by omega) (p_14 := by omega) (p_15 := sf229)) (fun o V' hq => ?_)
                    obtain ⟨G239, A240, ln2_241, at2_242, fk2_243, nd2_244, sy2_245, na2_246, vi2_247, lf2_248, mm_249, f2_250, rfl, rfl, hW251, hF252, hQ253, hQ254, hQ255, hQ256, e257, e258, e259, e260, e261, e262, e263, e264, e265, e266, p267, p268, p269, p270, p271, p272, p273, q274⟩ := hq
                    have hF275 := Fr_tr hF225 hF252 (Fr_sub (by decide)) (Fr_sub (by decide))
                    have hP276 := Pf_tr hP226 hQ253 (by omega)
                    have hS277 := Fx_tr hS227 hQ255 (by omega)
                    have hV278 := Fx_tr hV228 hQ256 (by omega)
                    have bln2_241 : (0 : Int) ≤ ln2_241 ∧ ln2_241 ≤ 3000 := e257 ▸ hW251.1 9
                    have bat2_242 : (0 : Int) ≤ at2_242 ∧ at2_242 ≤ 3002 := e258 ▸ hW251.1 10
                    have bfk2_243 : (0 : Int) ≤ fk2_243 ∧ fk2_243 ≤ 6 := e259 ▸ hW251.1 16
                    have bnd2_244 : (0 : Int) ≤ nd2_244 ∧ nd2_244 ≤ 6999 := e260 ▸ hW251.1 31
                    have bsy2_245 : (0 : Int) ≤ sy2_245 ∧ sy2_245 ≤ 202 := e261 ▸ hW251.1 19
                    have bna2_246 : (0 : Int) ≤ na2_246 ∧ na2_246 ≤ 200 := e262 ▸ hW251.1 28
                    have bvi2_247 : (0 : Int) ≤ vi2_247 ∧ vi2_247 ≤ 202 := e263 ▸ hW251.1 29
                    have blf2_248 : (0 : Int) ≤ lf2_248 ∧ lf2_248 ≤ 3000 := e264 ▸ hW251.2 3 _
                    have bmm_249 : (-2147483648 : Int) ≤ mm_249 ∧ mm_249 ≤ 2147483647 := e265 ▸ hW251.2 18 _
                    have bf2_250 : (-2147483648 : Int) ≤ f2_250 ∧ f2_250 ≤ 2147483647 := e266 ▸ hW251.2 21 _
                    refine .inl ⟨rfl, ?_⟩
                    rcases q274 with ⟨a279, a280⟩ | ⟨a281, a282, a283, a284, a285, a286, a287⟩
                    · have _q : True := trivial
                      refine jx_ld (pc' := 185) (l' := L155) (st' := [.int (i32 (nd))]) rfl (jl_iloadn gL155_2) ?_
                      refine jx_rt (v := some (.int (i32 (nd)))) rfl rfl rfl rfl rfl rfl ?_
                      exact ⟨_, _, _, ln2_241, at2_242, fk2_243, nd2_244, sy2_245, na2_246, vi2_247, lf2_248, rfl, rfl, hW251, hF275, hP276, hS277, hV278, by omega, (e257), (e258), (e259), (e260), (e261), (e262), (e263), (e264), by omega, by omega, by omega, by omega, by omega, by omega, by omega, by omega, by omega, by omega, by first | exact Or.inl (⟨by omega, by omega⟩)⟩
                    · have _q : True := trivial
                      refine jx_ld (pc' := 185) (l' := L155) (st' := [.int (i32 (nd))]) rfl (jl_iloadn gL155_2) ?_
                      refine jx_rt (v := some (.int (i32 (nd)))) rfl rfl rfl rfl rfl rfl ?_
                      exact ⟨_, _, _, ln2_241, at2_242, fk2_243, nd2_244, sy2_245, na2_246, vi2_247, lf2_248, rfl, rfl, hW251, hF275, hP276, hS277, hV278, by omega, (e257), (e258), (e259), (e260), (e261), (e262), (e263), (e264), by omega, by omega, by omega, by omega, by omega, by omega, by omega, by omega, by omega, by omega, by first | exact Or.inr ((⟨by omega, by omega, by omega, by omega, by omega, by omega, by omega, (wS_par a286 (RL_eq a287 (by omega) (by omega) (by omega) (by omega) (by omega)) (by omega) (by omega) (by omega)), (NX_nd a286)⟩))⟩
                  · have _q : True := trivial
                    refine jx_ld (pc' := 177) (l' := L155) (st' := [.ref 66]) rfl (jl_aloadn gL155_0) ?_
                    refine jx_ld (pc' := 178) (l' := L155) (st' := [.int (i32 (nd)), .ref 66]) rfl (jl_iloadn gL155_2) ?_
                    refine jx_ld (pc' := 179) (l' := L155) (st' := [.int (i32 (lv)), .int (i32 (nd)), .ref 66]) rfl (jl_iloadn gL155_1) ?_
                    refine jx_ar (pc' := 180) (st' := [.int (i32 (2)), .int (i32 (lv)), .int (i32 (nd)), .ref 66]) rfl rfl rfl rfl ?_
                    refine jx_ar (pc' := 181) (st' := [.int (i32 (2)), .int (i32 (2)), .int (i32 (lv)), .int (i32 (nd)), .ref 66]) rfl rfl rfl rfl ?_
                    refine jx_vr (pc' := 184) (as := [.int (i32 (nd)), .int (i32 (lv)), .int (i32 (2)), .int (i32 (2))]) (st := []) rfl rfl rfl rfl ⟨rfl, rfl, Nat.le_of_ble_eq_true rfl⟩ rfl rfl (c_readChildren_f (dd := d) (zz := nd) (hd := by omega) (hW := hW220) (n := nd) (lv := lv) (least := 2) (mo := 2) (fk := fk2_219) (e_fk := show G216 16 = fk2_219 from (e223))  (h_n := ⟨(Int.le_trans (by decide : (-2147483648 : Int) ≤ 0) b_nd.1), (Int.le_trans b_nd.2 (by decide : (6999 : Int) ≤ 2147483647))⟩) (h_lv := ⟨(Int.le_trans (by decide : (-2147483648 : Int) ≤ -2147483648) h_lv.1), (Int.le_trans h_lv.2 (by decide : (2147483647 : Int) ≤ 2147483647))⟩) (h_least := ⟨(by decide), (by decide)⟩) (h_mo := ⟨(by decide), (by decide)⟩)  (p_0 := by omega) (p_1 := by omega) (p_2 := by omega) (p_3 := by omega)) (fun o V' hq => ?_)
                    obtain ⟨G288, A289, fk2_290, rfl, rfl, hW291, hF292, hQ293, e294, p295, -⟩ := hq
                    have hF297 := Fr_tr hF225 hF292 (Fr_sub (by decide)) (Fr_sub (by decide))
                    have hP298 := Pf_tr hP226 hQ293 (by omega)
                    have hS299 := Fx_f hS227 hF292 (by decide)
                    have hV300 := Fx_f hV228 hF292 (by decide)
                    have bfk2_290 : (0 : Int) ≤ fk2_290 ∧ fk2_290 ≤ 6 := e294 ▸ hW291.1 16
                    refine .inl ⟨rfl, ?_⟩
                    refine jx_ld (pc' := 185) (l' := L155) (st' := [.int (i32 (nd))]) rfl (jl_iloadn gL155_2) ?_
                    refine jx_rt (v := some (.int (i32 (nd)))) rfl rfl rfl rfl rfl rfl ?_
                    exact ⟨_, _, _, ln2_218, at2_158, fk2_290, nd2_143, sy, na, vi, A 3 (ln2_218).toNat, rfl, rfl, hW291, hF297, hP298, hS299, hV300, by omega, ((hF292.1 9 rfl).trans (e222)), ((hF292.1 10 rfl).trans ((hF221.1 10 rfl).trans (e163))), (e294), ((hF292.1 31 rfl).trans ((hF221.1 31 rfl).trans ((hF162.1 31 rfl).trans (e147)))), ((hF292.1 19 rfl).trans ((hF221.1 19 rfl).trans ((hF162.1 19 rfl).trans ((hF145.1 19 rfl).trans ((hF116.1 19 rfl).trans (e_sy)))))), ((hF292.1 28 rfl).trans ((hF221.1 28 rfl).trans ((hF162.1 28 rfl).trans ((hF145.1 28 rfl).trans ((hF116.1 28 rfl).trans (e_na)))))), ((hF292.1 29 rfl).trans ((hF221.1 29 rfl).trans ((hF162.1 29 rfl).trans ((hF145.1 29 rfl).trans ((hF116.1 29 rfl).trans (e_vi)))))), (congrFun ((hF292.2 3 rfl).trans ((hF221.2 3 rfl).trans ((hF162.2 3 rfl).trans ((hF145.2 3 rfl).trans (hF116.2 3 rfl))))) _), by omega, by omega, by omega, by omega, by omega, by omega, by omega, by omega, by omega, by omega, by first | exact Or.inl (⟨by omega, by omega⟩)⟩
              · have _q := h140
                exact absurd h140 (by omega)
            · have _q : True := trivial
              refine jx_if_ne (pc' := 145) (tg := 156) rfl rfl rfl (by decide) (by decide) (fun h301 => ?_) (fun h301 => ?_)
              · have _q := h301
                exact absurd h301 (by omega)
              · have _q := h301
                refine jx_ld (pc' := 146) (l' := L7) (st' := [.ref 66]) rfl (jl_aloadn gL7_0) ?_
                refine jx_ar (pc' := 147) (st' := [.int (i32 (1)), .ref 66]) rfl rfl rfl rfl ?_
                refine jx_ld (pc' := 148) (l' := L7) (st' := [.ref 66, .int (i32 (1)), .ref 66]) rfl (jl_aloadn gL7_0) ?_
                have b302 : (-3000 : Int) ≤ G111 12 ∧ G111 12 ≤ 3002 := hW115.1 12
                refine jr_get (pc' := 151) (i := 12) (v := .int (i32 (G111 12))) rfl rfl (by decide) rfl rfl ?_
                refine jx_vr (pc' := 154) (as := [.int (i32 (1)), .int (i32 (G111 12))]) (st := []) rfl rfl rfl rfl ⟨rfl, rfl, Nat.le_of_ble_eq_true rfl⟩ rfl rfl (c_fail (dd := d) (hd := by omega) (hW := hW115) (kind := 1) (place := G111 12) (fk := fk) (e_fk := show G111 16 = fk from ((hF116.1 16 rfl).trans (e_fk)))  (h_kind := ⟨(by decide), (by decide)⟩) (h_place := ⟨(Int.le_trans (by decide : (-2147483648 : Int) ≤ -3000) b302.1), (Int.le_trans b302.2 (by decide : (3002 : Int) ≤ 2147483647))⟩)  (p_0 := by omega) (p_1 := by omega)) (fun o V' hq => ?_)
                obtain ⟨G303, A304, fk2_305, rfl, rfl, hW306, hF307, e308, p309, -⟩ := hq
                have hF311 := Fr_tr hF123 hF307 (Fr_sub (by decide)) (Fr_sub (by decide))
                have hP312 := Pf_f hP124 hF307 (by decide)
                have hS313 := Fx_f hS125 hF307 (by decide)
                have hV314 := Fx_f hV126 hF307 (by decide)
                have bfk2_305 : (0 : Int) ≤ fk2_305 ∧ fk2_305 ≤ 6 := e308 ▸ hW306.1 16
                refine .inl ⟨rfl, ?_⟩
                refine jx_ar (pc' := 155) (st' := [.int (i32 (0))]) rfl rfl rfl rfl ?_
                refine jx_rt (v := some (.int (i32 (0)))) rfl rfl rfl rfl rfl rfl ?_
                exact ⟨_, _, _, ln, at2_113, fk2_305, nd, sy, na, vi, A 3 (ln).toNat, rfl, rfl, hW306, hF311, hP312, hS313, hV314, by omega, ((hF307.1 9 rfl).trans ((hF116.1 9 rfl).trans (e_ln))), ((hF307.1 10 rfl).trans (e117)), (e308), ((hF307.1 31 rfl).trans ((hF116.1 31 rfl).trans (e_nd))), ((hF307.1 19 rfl).trans ((hF116.1 19 rfl).trans (e_sy))), ((hF307.1 28 rfl).trans ((hF116.1 28 rfl).trans (e_na))), ((hF307.1 29 rfl).trans ((hF116.1 29 rfl).trans (e_vi))), (congrFun ((hF307.2 3 rfl).trans (hF116.2 3 rfl)) _), by omega, by omega, by omega, by omega, by omega, by omega, by omega, by omega, by omega, by omega, by first | exact Or.inl (⟨by omega, by omega⟩)⟩
      · refine jx_swe (z := 4) (tg := 253) h8 rfl rfl rfl rfl ?_
        refine jx_ld (pc' := 254) (l' := L7) (st' := [.ref 66]) rfl (jl_aloadn gL7_0) ?_
        refine jx_ld (pc' := 255) (l' := L7) (st' := [.int (i32 (lv)), .ref 66]) rfl (jl_iloadn gL7_1) ?_
        refine jx_vr (pc' := 258) (as := [.int (i32 (lv))]) (st := []) rfl rfl rfl rfl ⟨rfl, rfl, Nat.le_of_ble_eq_true rfl⟩ rfl rfl (c_readAlt (dd := d) (hP := hP) (hd := by omega) (hW := hW) (lv := lv) (ln := ln) (e_ln := show G 9 = ln from (e_ln)) (li := li) (e_li := show G 3 = li from (e_li)) (at0 := at0) (e_at0 := show G 10 = at0 from (e_at0)) (fk := fk) (e_fk := show G 16 = fk from (e_fk)) (nd := nd) (e_nd := show G 31 = nd from (e_nd)) (sy := sy) (e_sy := show G 19 = sy from (e_sy)) (na := na) (e_na := show G 28 = na from (e_na)) (vi := vi) (e_vi := show G 29 = vi from (e_vi)) (le := le) (e_le := show A 4 (ln).toNat = le from (e_le)) (op0 := op0) (e_op0 := show G 15 = op0 from (e_op0)) (tk0 := tk0) (e_tk0 := show G 11 = tk0 from (e_tk0)) (i_LT := (LT_ext (rfl) (rfl) (rfl) i_LT)) (i_SV := (SV_fx i_SV e_vi (show G 29 = vi from (e_vi)) (by omega) hV0)) (i_PQ := (PQ_fx i_PQ hS0 (by omega) (hF0.2 29 rfl) (hF0.2 30 rfl))) (hvb := hvb) (h_lv := ⟨(Int.le_trans (by decide : (-2147483648 : Int) ≤ -2147483648) h_lv.1), (Int.le_trans h_lv.2 (by decide : (2147483647 : Int) ≤ 2147483647))⟩)  (p_0 := by omega) (p_1 := by omega) (p_2 := by omega) (p_3 := by omega) (p_4 := by omega) (p_5 := by omega) (p_6 := by omega) (p_7 := by omega) (p_8 := by omega) (p_9 := by omega) (p_10 := by omega)) (fun o V' hq => ?_)
        obtain ⟨G315, A316, r317, ln2_318, at2_319, fk2_320, nd2_321, sy2_322, na2_323, vi2_324, lf2_325, rfl, rfl, hW326, hF327, hQ328, hQ329, hQ330, b331, e332, e333, e334, e335, e336, e337, e338, e339, p340, p341, p342, p343, p344, p345, p346, p347, p348, p349, q350⟩ := hq
        have hF351 := Fr_tr hF0 hF327 (Fr_sub (by decide)) (Fr_sub (by decide))
        have hP352 := Pf_tr hP0 hQ328 (by omega)
        have hS353 := Fx_tr hS0 hQ329 (by omega)
        have hV354 := Fx_tr hV0 hQ330 (by omega)
        have bln2_318 : (0 : Int) ≤ ln2_318 ∧ ln2_318 ≤ 3000 := e332 ▸ hW326.1 9
        have bat2_319 : (0 : Int) ≤ at2_319 ∧ at2_319 ≤ 3002 := e333 ▸ hW326.1 10
        have bfk2_320 : (0 : Int) ≤ fk2_320 ∧ fk2_320 ≤ 6 := e334 ▸ hW326.1 16
        have bnd2_321 : (0 : Int) ≤ nd2_321 ∧ nd2_321 ≤ 6999 := e335 ▸ hW326.1 31
        have bsy2_322 : (0 : Int) ≤ sy2_322 ∧ sy2_322 ≤ 202 := e336 ▸ hW326.1 19
        have bna2_323 : (0 : Int) ≤ na2_323 ∧ na2_323 ≤ 200 := e337 ▸ hW326.1 28
        have bvi2_324 : (0 : Int) ≤ vi2_324 ∧ vi2_324 ≤ 202 := e338 ▸ hW326.1 29
        have blf2_325 : (0 : Int) ≤ lf2_325 ∧ lf2_325 ≤ 3000 := e339 ▸ hW326.2 3 _
        refine .inr ⟨_, rfl, ?_⟩
        rcases q350 with ⟨a355, a356⟩ | ⟨a357, a358, a359, a360, a361, a362, a363, a364, a365⟩
        · have _q : True := trivial
          refine jx_rt (v := some (.int (i32 (r317)))) rfl rfl rfl rfl rfl rfl ?_
          exact ⟨_, _, _, ln2_318, at2_319, fk2_320, nd2_321, sy2_322, na2_323, vi2_324, lf2_325, rfl, rfl, hW326, hF351, hP352, hS353, hV354, by omega, (e332), (e333), (e334), (e335), (e336), (e337), (e338), (e339), by omega, by omega, by omega, by omega, by omega, by omega, by omega, by omega, by omega, by omega, by first | exact Or.inl (⟨by omega, by omega⟩)⟩
        · have _q : True := trivial
          refine jx_rt (v := some (.int (i32 (r317)))) rfl rfl rfl rfl rfl rfl ?_
          exact ⟨_, _, _, ln2_318, at2_319, fk2_320, nd2_321, sy2_322, na2_323, vi2_324, lf2_325, rfl, rfl, hW326, hF351, hP352, hS353, hV354, by omega, (e332), (e333), (e334), (e335), (e336), (e337), (e338), (e339), by omega, by omega, by omega, by omega, by omega, by omega, by omega, by omega, by omega, by omega, by first | exact Or.inr ((⟨by omega, by omega, by omega, by omega, by omega, by omega, by omega, a364, a365⟩))⟩
      · refine jx_swe (z := 5) (tg := 192) h8 rfl rfl rfl rfl ?_
        refine jx_ld (pc' := 193) (l' := L7) (st' := [.ref 66]) rfl (jl_aloadn gL7_0) ?_
        refine jx_ld (pc' := 194) (l' := L7) (st' := [.int (i32 (lv)), .ref 66]) rfl (jl_iloadn gL7_1) ?_
        refine jx_vr (pc' := 197) (as := [.int (i32 (lv))]) (st := []) rfl rfl rfl rfl ⟨rfl, rfl, Nat.le_of_ble_eq_true rfl⟩ rfl rfl (c_readIf (dd := d) (hP := hP) (hd := by omega) (hW := hW) (lv := lv) (ln := ln) (e_ln := show G 9 = ln from (e_ln)) (li := li) (e_li := show G 3 = li from (e_li)) (at0 := at0) (e_at0 := show G 10 = at0 from (e_at0)) (fk := fk) (e_fk := show G 16 = fk from (e_fk)) (nd := nd) (e_nd := show G 31 = nd from (e_nd)) (sy := sy) (e_sy := show G 19 = sy from (e_sy)) (na := na) (e_na := show G 28 = na from (e_na)) (vi := vi) (e_vi := show G 29 = vi from (e_vi)) (le := le) (e_le := show A 4 (ln).toNat = le from (e_le)) (op0 := op0) (e_op0 := show G 15 = op0 from (e_op0)) (tk0 := tk0) (e_tk0 := show G 11 = tk0 from (e_tk0)) (i_LT := (LT_ext (rfl) (rfl) (rfl) i_LT)) (i_SV := (SV_fx i_SV e_vi (show G 29 = vi from (e_vi)) (by omega) hV0)) (i_PQ := (PQ_fx i_PQ hS0 (by omega) (hF0.2 29 rfl) (hF0.2 30 rfl))) (hvb := hvb) (h_lv := ⟨(Int.le_trans (by decide : (-2147483648 : Int) ≤ -2147483648) h_lv.1), (Int.le_trans h_lv.2 (by decide : (2147483647 : Int) ≤ 2147483647))⟩)  (p_0 := by omega) (p_1 := by omega) (p_2 := by omega) (p_3 := by omega) (p_4 := by omega) (p_5 := by omega) (p_6 := by omega) (p_7 := by omega) (p_8 := by omega) (p_9 := by omega) (p_10 := by omega)) (fun o V' hq => ?_)
        obtain ⟨G366, A367, r368, ln2_369, at2_370, fk2_371, nd2_372, sy2_373, na2_374, vi2_375, lf2_376, rfl, rfl, hW377, hF378, hQ379, hQ380, hQ381, b382, e383, e384, e385, e386, e387, e388, e389, e390, p391, p392, p393, p394, p395, p396, p397, p398, p399, p400, q401⟩ := hq
        have hF402 := Fr_tr hF0 hF378 (Fr_sub (by decide)) (Fr_sub (by decide))
        have hP403 := Pf_tr hP0 hQ379 (by omega)
        have hS404 := Fx_tr hS0 hQ380 (by omega)
        have hV405 := Fx_tr hV0 hQ381 (by omega)
        have bln2_369 : (0 : Int) ≤ ln2_369 ∧ ln2_369 ≤ 3000 := e383 ▸ hW377.1 9
        have bat2_370 : (0 : Int) ≤ at2_370 ∧ at2_370 ≤ 3002 := e384 ▸ hW377.1 10
        have bfk2_371 : (0 : Int) ≤ fk2_371 ∧ fk2_371 ≤ 6 := e385 ▸ hW377.1 16
        have bnd2_372 : (0 : Int) ≤ nd2_372 ∧ nd2_372 ≤ 6999 := e386 ▸ hW377.1 31
        have bsy2_373 : (0 : Int) ≤ sy2_373 ∧ sy2_373 ≤ 202 := e387 ▸ hW377.1 19
        have bna2_374 : (0 : Int) ≤ na2_374 ∧ na2_374 ≤ 200 := e388 ▸ hW377.1 28
        have bvi2_375 : (0 : Int) ≤ vi2_375 ∧ vi2_375 ≤ 202 := e389 ▸ hW377.1 29
        have blf2_376 : (0 : Int) ≤ lf2_376 ∧ lf2_376 ≤ 3000 := e390 ▸ hW377.2 3 _
        refine .inr ⟨_, rfl, ?_⟩
        rcases q401 with ⟨a406, a407⟩ | ⟨a408, a409, a410, a411, a412, a413, a414, a415, a416⟩
        · have _q : True := trivial
          refine jx_rt (v := some (.int (i32 (r368)))) rfl rfl rfl rfl rfl rfl ?_
          exact ⟨_, _, _, ln2_369, at2_370, fk2_371, nd2_372, sy2_373, na2_374, vi2_375, lf2_376, rfl, rfl, hW377, hF402, hP403, hS404, hV405, by omega, (e383), (e384), (e385), (e386), (e387), (e388), (e389), (e390), by omega, by omega, by omega, by omega, by omega, by omega, by omega, by omega, by omega, by omega, by first | exact Or.inl (⟨by omega, by omega⟩)⟩
        · have _q : True := trivial
          refine jx_rt (v := some (.int (i32 (r368)))) rfl rfl rfl rfl rfl rfl ?_
          exact ⟨_, _, _, ln2_369, at2_370, fk2_371, nd2_372, sy2_373, na2_374, vi2_375, lf2_376, rfl, rfl, hW377, hF402, hP403, hS404, hV405, by omega, (e383), (e384), (e385), (e386), (e387), (e388), (e389), (e390), by omega, by omega, by omega, by omega, by omega, by omega, by omega, by omega, by omega, by omega, by first | exact Or.inr ((⟨by omega, by omega, by omega, by omega, by omega, by omega, by omega, a415, a416⟩))⟩
      · refine jx_swe (z := 6) (tg := 198) h8 rfl rfl rfl rfl ?_
        refine jx_ld (pc' := 199) (l' := L7) (st' := [.ref 66]) rfl (jl_aloadn gL7_0) ?_
        refine jx_vr (pc' := 202) (as := []) (st := []) rfl rfl rfl rfl ⟨rfl, rfl, Nat.le_of_ble_eq_true rfl⟩ rfl rfl (c_next (dd := d) (hd := by omega) (hW := hW)  (ln := ln) (e_ln := show G 9 = ln from (e_ln)) (le := le) (e_le := show A 4 (ln).toNat = le from (e_le)) (at0 := at0) (e_at0 := show G 10 = at0 from (e_at0))    (p_0 := by omega)) (fun o V' hq => ?_)
        obtain ⟨G417, A418, at2_419, tk2_420, rfl, rfl, hW421, hF422, e423, e424, p425, p426, p427, -⟩ := hq
        have hF429 := Fr_tr hF0 hF422 (Fr_sub (by decide)) (Fr_sub (by decide))
        have hP430 := Pf_f hP0 hF422 (by decide)
        have hS431 := Fx_f hS0 hF422 (by decide)
        have hV432 := Fx_f hV0 hF422 (by decide)
        have bat2_419 : (0 : Int) ≤ at2_419 ∧ at2_419 ≤ 3002 := e423 ▸ hW421.1 10
        have ztk2_420 := tz_b tk2_420
        have btk2_420 : (0 : Int) ≤ tk2_420 ∧ tk2_420 ≤ 5 := e424 ▸ hW421.1 11
        refine .inl ⟨rfl, ?_⟩
        refine jx_ld (pc' := 203) (l' := L7) (st' := [.ref 66]) rfl (jl_aloadn gL7_0) ?_
        refine jx_ar (pc' := 205) (st' := [.int (i32 (31)), .ref 66]) rfl rfl rfl rfl ?_
        refine jx_ar (pc' := 206) (st' := [.int (i32 (0)), .int (i32 (31)), .ref 66]) rfl rfl rfl rfl ?_
        refine jx_ar (pc' := 207) (st' := [.int (i32 (0)), .int (i32 (0)), .int (i32 (31)), .ref 66]) rfl rfl rfl rfl ?_
        refine jx_ar (pc' := 208) (st' := [.int (i32 (0)), .int (i32 (0)), .int (i32 (0)), .int (i32 (31)), .ref 66]) rfl rfl rfl rfl ?_
        refine jx_ar (pc' := 209) (st' := [.int (i32 (0)), .int (i32 (0)), .int (i32 (0)), .int (i32 (0)), .int (i32 (31)), .ref 66]) rfl rfl rfl rfl ?_
        refine jx_vr (pc' := 212) (as := [.int (i32 (31)), .int (i32 (0)), .int (i32 (0)), .int (i32 (0)), .int (i32 (0))]) (st := []) rfl rfl rfl rfl ⟨rfl, rfl, Nat.le_of_ble_eq_true rfl⟩ rfl rfl (c_node (dd := d) (hd := by omega) (hW := hW421) (kind := 31) (a := 0) (b := 0) (c := 0) (e := 0) (nd := nd) (e_nd := show G417 31 = nd from ((hF422.1 31 rfl).trans (e_nd)))  (h_kind := ⟨(by decide), (by decide)⟩) (h_a := ⟨(by decide), (by decide)⟩) (h_b := ⟨(by decide), (by decide)⟩) (h_c := ⟨(by decide), (by decide)⟩) (h_e := ⟨(by decide), (by decide)⟩)  (p_0 := by omega) (p_1 := by omega)) (fun o V' hq => ?_)
        obtain ⟨G433, A434, nd2_435, rfl, rfl, hW436, hF437, hQ438, e439, p440, p441, -⟩ := hq
        have hF443 := Fr_tr hF429 hF437 (Fr_sub (by decide)) (Fr_sub (by decide))
        have hP444 := Pf_tr hP430 hQ438 (by omega)
        have hS445 := Fx_f hS431 hF437 (by decide)
        have hV446 := Fx_f hV432 hF437 (by decide)
        have bnd2_435 : (0 : Int) ≤ nd2_435 ∧ nd2_435 ≤ 6999 := e439 ▸ hW436.1 31
        refine .inr ⟨_, rfl, ?_⟩
        refine jx_ld (pc' := 213) (l' := jSto1 L7 2 (.int (i32 (nd)))) (st' := []) rfl rfl ?_
        obtain ⟨L447, eL447⟩ : ∃ q, q = jSto1 L7 2 (.int (i32 (nd))) := ⟨_, rfl⟩
        rw [← eL447]
        have gL447_0 : jGet L447 0 = some (.ref 66) := eL447 ▸ jg_ne (by decide) gL7_0 rfl
        have gL447_1 : jGet L447 1 = some (.int (i32 (lv))) := eL447 ▸ jg_ne (by decide) gL7_1 rfl
        have gL447_3 : jGet L447 3 = some (.int (i32 (G 13))) := eL447 ▸ jg_ne (by decide) gL7_3 rfl
        have gL447_2 : jGet L447 2 = some (.int (i32 (nd))) := eL447 ▸ jg_eq
        refine jx_ld (pc' := 214) (l' := L447) (st' := [.ref 66]) rfl (jl_aloadn gL447_0) ?_
        refine jr_get (pc' := 217) (i := 34) (v := .ref 84) rfl rfl (by decide) rfl rfl ?_
        refine jx_ld (pc' := 218) (l' := L447) (st' := [.int (i32 (nd)), .ref 84]) rfl (jl_iloadn gL447_2) ?_
        refine jx_ld (pc' := 219) (l' := L447) (st' := [.ref 66, .int (i32 (nd)), .ref 84]) rfl (jl_aloadn gL447_0) ?_
        refine jx_vr (pc' := 222) (as := []) (st := [.int (i32 (nd)), .ref 84]) rfl rfl rfl rfl ⟨rfl, rfl, Nat.le_of_ble_eq_true rfl⟩ rfl rfl (RE_all X 9 (dd := d) (hd := by omega) (hW := hW436)  (ln := ln) (e_ln := show G433 9 = ln from ((hF437.1 9 rfl).trans ((hF422.1 9 rfl).trans (e_ln)))) (le := le) (e_le := show A434 4 (ln).toNat = le from (congrFun ((hF437.2 4 rfl).trans (hF422.2 4 rfl)) _).trans (e_le)) (at0 := at2_419) (e_at0 := show G433 10 = at2_419 from ((hF437.1 10 rfl).trans (e423))) (fk := fk) (e_fk := show G433 16 = fk from ((hF437.1 16 rfl).trans ((hF422.1 16 rfl).trans (e_fk)))) (op0 := op0) (e_op0 := show G433 15 = op0 from ((hF437.1 15 rfl).trans ((hF422.1 15 rfl).trans (e_op0)))) (nd := nd2_435) (e_nd := show G433 31 = nd2_435 from (e439)) (tk0 := tk2_420) (e_tk0 := show G433 11 = tk2_420 from ((hF437.1 11 rfl).trans (e424))) (i_SV := (SV_fx i_SV e_vi (show G433 29 = vi from ((hF437.1 29 rfl).trans ((hF422.1 29 rfl).trans (e_vi)))) (by omega) hV446))   (p_0 := by omega) (p_1 := by omega) (p_2 := by omega) (p_3 := by omega) (p_4 := by omega) (p_5 := by omega)) (fun o V' hq => ?_)
        obtain ⟨G448, A449, r450, at2_451, fk2_452, op2_453, nd2_454, tk2_455, rfl, rfl, hW456, hF457, hQ458, b459, e460, e461, e462, e463, e464, p465, p466, p467, p468, p469, p470, q471⟩ := hq
        have hF472 := Fr_tr hF443 hF457 (Fr_sub (by decide)) (Fr_sub (by decide))
        have hP473 := Pf_tr hP444 hQ458 (by omega)
        have hS474 := Fx_f hS445 hF457 (by decide)
        have hV475 := Fx_f hV446 hF457 (by decide)
        have sf476 : ND A449 (nd) (31) (0) (0) (0) (0) (0) (0) := ND_ag (by omega) (Ag_pf hQ458 (by omega)) p441
        have bat2_451 : (0 : Int) ≤ at2_451 ∧ at2_451 ≤ 3002 := e460 ▸ hW456.1 10
        have bfk2_452 : (0 : Int) ≤ fk2_452 ∧ fk2_452 ≤ 6 := e461 ▸ hW456.1 16
        have bop2_453 : (-2147483648 : Int) ≤ op2_453 ∧ op2_453 ≤ 2147483647 := e462 ▸ hW456.1 15
        have bnd2_454 : (0 : Int) ≤ nd2_454 ∧ nd2_454 ≤ 6999 := e463 ▸ hW456.1 31
        have ztk2_455 := tz_b tk2_455
        have btk2_455 : (0 : Int) ≤ tk2_455 ∧ tk2_455 ≤ 5 := e464 ▸ hW456.1 11
        refine .inr ⟨_, rfl, ?_⟩
        rcases q471 with ⟨a477, a478, a479, a480, a481, a482⟩ | ⟨a483, a484, a485⟩ | ⟨a486, a487, a488, a489⟩
        · have _q : True := trivial
          exfalso
          omega
        · have _q : True := trivial
          refine jr_st (pc' := 223) (i := 17) (m := 7000) (z := nd) (y := r450) rfl (by decide) rfl (by decide) (by omega) (by omega) rfl ?_
          have hW491 : Wk G448 (uA A449 17 (nd).toNat (r450)) := Wk_a hW456 (show (-2147483648 : Int) ≤ r450 by omega) (show r450 ≤ (2147483647 : Int) by omega)
          have hF492 := Fr_a (z := r450) (k := 17) (n := (nd).toNat) hF472 (by decide)
          obtain ⟨A490, eA490⟩ : ∃ q, q = uA A449 17 (nd).toNat (r450) := ⟨_, rfl⟩
          rw [← eA490]
          rw [← eA490] at hW491 hF492
          have q493 : A490 17 (nd).toNat = r450 := by rw [eA490]; exact uA_eq
          have hP494 : Pf nd A A490 := eA490 ▸ Pf_a hP473 (z := nd) (by omega) (by omega)
          have hS495 : Fx sr (sy) A A490 := eA490 ▸ Fx_n hS474 rfl
          have hV496 : Fx [14] (vi) A A490 := eA490 ▸ Fx_n hV475 rfl
          have sf497 : ND A490 (nd) (31) (r450) (0) (0) (0) (0) (0) := ND_a eA490 sf476
          refine jx_ld (pc' := 224) (l' := L447) (st' := [.ref 66]) rfl (jl_aloadn gL447_0) ?_
          refine jx_vr (pc' := 227) (as := []) (st := []) rfl rfl rfl rfl ⟨rfl, rfl, Nat.le_of_ble_eq_true rfl⟩ rfl rfl (c_endLine (dd := d) (hd := by omega) (hW := hW491)  (ln := ln) (e_ln := show G448 9 = ln from ((hF457.1 9 rfl).trans ((hF437.1 9 rfl).trans ((hF422.1 9 rfl).trans (e_ln))))) (li := li) (e_li := show G448 3 = li from ((hF457.1 3 rfl).trans ((hF437.1 3 rfl).trans ((hF422.1 3 rfl).trans (e_li))))) (fk := fk2_452) (e_fk := show G448 16 = fk2_452 from (e461)) (tk0 := tk2_455) (e_tk0 := show G448 11 = tk2_455 from (e464))    (p_0 := by omega)) (fun o V' hq => ?_)
          obtain ⟨G498, A499, ln2_500, fk2_501, rfl, rfl, hW502, hF503, e504, e505, q506⟩ := hq
          have hF507 := Fr_tr hF492 hF503 (Fr_sub (by decide)) (Fr_sub (by decide))
          have hP508 := Pf_f hP494 hF503 (by decide)
          have hS509 := Fx_f hS495 hF503 (by decide)
          have hV510 := Fx_f hV496 hF503 (by decide)
          have sf511 : ND A499 (nd) (31) (r450) (0) (0) (0) (0) (0) := ND_ag (by omega) (Ag_fr hF503 (by decide)) sf497
          have bln2_500 : (0 : Int) ≤ ln2_500 ∧ ln2_500 ≤ 3000 := e504 ▸ hW502.1 9
          have bfk2_501 : (0 : Int) ≤ fk2_501 ∧ fk2_501 ≤ 6 := e505 ▸ hW502.1 16
          refine .inl ⟨rfl, ?_⟩
          rcases q506 with ⟨a512, a513, a514, a515, a516⟩ | ⟨a517, a518⟩
          · have _q : True := trivial
            exfalso
            omega
          · have _q : True := trivial
            refine jx_ld (pc' := 228) (l' := L447) (st' := [.ref 66]) rfl (jl_aloadn gL447_0) ?_
            refine jr_get (pc' := 231) (i := 38) (v := .ref 88) rfl rfl (by decide) rfl rfl ?_
            refine jx_ld (pc' := 232) (l' := L447) (st' := [.int (i32 (nd)), .ref 88]) rfl (jl_iloadn gL447_2) ?_
            refine jx_ld (pc' := 233) (l' := L447) (st' := [.ref 66, .int (i32 (nd)), .ref 88]) rfl (jl_aloadn gL447_0) ?_
            refine jx_vr (pc' := 236) (as := []) (st := [.int (i32 (nd)), .ref 88]) rfl rfl rfl rfl ⟨rfl, rfl, Nat.le_of_ble_eq_true rfl⟩ rfl rfl (c_bad (dd := d) (hd := by omega) (hW := hW502)  (fk := fk2_501) (e_fk := show G498 16 = fk2_501 from (e505))    ) (fun o V' hq => ?_)
            obtain ⟨r519, rfl, rfl, b520, q521⟩ := hq
            refine .inr ⟨_, rfl, ?_⟩
            rcases q521 with ⟨rfl, a522⟩ | ⟨rfl, a523⟩
            · have _q : True := trivial
              refine jx_if_eq (pc' := 239) (tg := 243) rfl rfl rfl (by decide) (by decide) (fun h524 => ?_) (fun h524 => ?_)
              · have _q := h524
                exact absurd h524 (by omega)
              · have _q := h524
                refine jx_ar (pc' := 240) (st' := [.int (i32 (0)), .int (i32 (nd)), .ref 88]) rfl rfl rfl rfl ?_
                refine jx_go (tg := 250) rfl rfl ?_
                refine jr_st (pc' := 251) (i := 21) (m := 7000) (z := nd) (y := 0) rfl (by decide) rfl (by decide) (by omega) (by omega) rfl ?_
                have hW526 : Wk G498 (uA A499 21 (nd).toNat (0)) := Wk_a hW502 (show (-2147483648 : Int) ≤ 0 by omega) (show 0 ≤ (2147483647 : Int) by omega)
                have hF527 := Fr_a (z := 0) (k := 21) (n := (nd).toNat) hF507 (by decide)
                obtain ⟨A525, eA525⟩ : ∃ q, q = uA A499 21 (nd).toNat (0) := ⟨_, rfl⟩
                rw [← eA525]
                rw [← eA525] at hW526 hF527
                have q528 : A525 21 (nd).toNat = 0 := by rw [eA525]; exact uA_eq
                have hP529 : Pf nd A A525 := eA525 ▸ Pf_a hP508 (z := nd) (by omega) (by omega)
                have hS530 : Fx sr (sy) A A525 := eA525 ▸ Fx_n hS509 rfl
                have hV531 : Fx [14] (vi) A A525 := eA525 ▸ Fx_n hV510 rfl
                have sf532 : ND A525 (nd) (31) (r450) (0) (0) (0) (0) (0) := ND_f eA525 sf511
                refine jx_ld (pc' := 252) (l' := L447) (st' := [.int (i32 (nd))]) rfl (jl_iloadn gL447_2) ?_
                refine jx_rt (v := some (.int (i32 (nd)))) rfl rfl rfl rfl rfl rfl ?_
                exact ⟨_, _, _, ln2_500, at2_451, fk2_501, nd2_454, sy, na, vi, A 3 (ln2_500).toNat, rfl, rfl, hW526, hF527, hP529, hS530, hV531, by omega, (e504), ((hF503.1 10 rfl).trans (e460)), (e505), ((hF503.1 31 rfl).trans (e463)), ((hF503.1 19 rfl).trans ((hF457.1 19 rfl).trans ((hF437.1 19 rfl).trans ((hF422.1 19 rfl).trans (e_sy))))), ((hF503.1 28 rfl).trans ((hF457.1 28 rfl).trans ((hF437.1 28 rfl).trans ((hF422.1 28 rfl).trans (e_na))))), ((hF503.1 29 rfl).trans ((hF457.1 29 rfl).trans ((hF437.1 29 rfl).trans ((hF422.1 29 rfl).trans (e_vi))))), (congrFun (((congrFun eA525 3).trans (uA_ne (by decide))).trans ((hF503.2 3 rfl).trans (((congrFun eA490 3).trans (uA_ne (by decide))).trans ((hF457.2 3 rfl).trans ((hF437.2 3 rfl).trans (hF422.2 3 rfl)))))) _), by omega, by omega, by omega, by omega, by omega, by omega, by omega, by omega, by omega, by omega, by first | exact Or.inl (⟨by omega, by omega⟩)⟩
            · have _q : True := trivial
              exfalso
              omega
        · have _q : True := trivial
          refine jr_st (pc' := 223) (i := 17) (m := 7000) (z := nd) (y := r450) rfl (by decide) rfl (by decide) (by omega) (by omega) rfl ?_
          have hW534 : Wk G448 (uA A449 17 (nd).toNat (r450)) := Wk_a hW456 (show (-2147483648 : Int) ≤ r450 by omega) (show r450 ≤ (2147483647 : Int) by omega)
          have hF535 := Fr_a (z := r450) (k := 17) (n := (nd).toNat) hF472 (by decide)
          obtain ⟨A533, eA533⟩ : ∃ q, q = uA A449 17 (nd).toNat (r450) := ⟨_, rfl⟩
          rw [← eA533]
          rw [← eA533] at hW534 hF535
          have q536 : A533 17 (nd).toNat = r450 := by rw [eA533]; exact uA_eq
          have hP537 : Pf nd A A533 := eA533 ▸ Pf_a hP473 (z := nd) (by omega) (by omega)
          have hS538 : Fx sr (sy) A A533 := eA533 ▸ Fx_n hS474 rfl
          have hV539 : Fx [14] (vi) A A533 := eA533 ▸ Fx_n hV475 rfl
          have sf540 : ND A533 (nd) (31) (r450) (0) (0) (0) (0) (0) := ND_a eA533 sf476
          have sf541 : wE A533 Vs sb (2 * 9 + 2) (r450) (nd2_435) (nd2_454) := wE_ag (by omega) (Sg_ne eA533 rfl) (Ag_st eA533 (by omega) (by omega)) a489
          refine jx_ld (pc' := 224) (l' := L447) (st' := [.ref 66]) rfl (jl_aloadn gL447_0) ?_
          refine jx_vr (pc' := 227) (as := []) (st := []) rfl rfl rfl rfl ⟨rfl, rfl, Nat.le_of_ble_eq_true rfl⟩ rfl rfl (c_endLine (dd := d) (hd := by omega) (hW := hW534)  (ln := ln) (e_ln := show G448 9 = ln from ((hF457.1 9 rfl).trans ((hF437.1 9 rfl).trans ((hF422.1 9 rfl).trans (e_ln))))) (li := li) (e_li := show G448 3 = li from ((hF457.1 3 rfl).trans ((hF437.1 3 rfl).trans ((hF422.1 3 rfl).trans (e_li))))) (fk := fk2_452) (e_fk := show G448 16 = fk2_452 from (e461)) (tk0 := tk2_455) (e_tk0 := show G448 11 = tk2_455 from (e464))    (p_0 := by omega)) (fun o V' hq => ?_)
          obtain ⟨G542, A543, ln2_544, fk2_545, rfl, rfl, hW546, hF547, e548, e549, q550⟩ := hq
          have hF551 := Fr_tr hF535 hF547 (Fr_sub (by decide)) (Fr_sub (by decide))
          have hP552 := Pf_f hP537 hF547 (by decide)
          have hS553 := Fx_f hS538 hF547 (by decide)
          have hV554 := Fx_f hV539 hF547 (by decide)
          have sf555 : ND A543 (nd) (31) (r450) (0) (0) (0) (0) (0) := ND_ag (by omega) (Ag_fr hF547 (by decide)) sf540
          have sf556 : wE A543 Vs sb (2 * 9 + 2) (r450) (nd2_435) (nd2_454) := wE_ag (by omega) (Sg_fr hF547 (by decide)) (Ag_fr hF547 (by decide)) sf541
          have bln2_544 : (0 : Int) ≤ ln2_544 ∧ ln2_544 ≤ 3000 := e548 ▸ hW546.1 9
          have bfk2_545 : (0 : Int) ≤ fk2_545 ∧ fk2_545 ≤ 6 := e549 ▸ hW546.1 16
          refine .inl ⟨rfl, ?_⟩
          rcases q550 with ⟨a557, a558, a559, a560, a561⟩ | ⟨a562, a563⟩
          · have _q : True := trivial
            have b564 : (0 : Int) ≤ A 3 (ln2_544).toNat ∧ A 3 (ln2_544).toNat ≤ 3000 := hW.2 3 _
            have lt565 : ln2_544 < li → le < A 3 (ln2_544).toNat := fun hh => LT_nx (LT_ext (((hF547.1 3 rfl).trans ((hF457.1 3 rfl).trans ((hF437.1 3 rfl).trans (hF422.1 3 rfl))))) (((hF547.2 3 rfl).trans (((congrFun eA533 3).trans (uA_ne (by decide))).trans ((hF457.2 3 rfl).trans ((hF437.2 3 rfl).trans (hF422.2 3 rfl)))))) (((hF547.2 4 rfl).trans (((congrFun eA533 4).trans (uA_ne (by decide))).trans ((hF457.2 4 rfl).trans ((hF437.2 4 rfl).trans (hF422.2 4 rfl)))))) i_LT) (show G542 3 = li from ((hF547.1 3 rfl).trans ((hF457.1 3 rfl).trans ((hF437.1 3 rfl).trans ((hF422.1 3 rfl).trans (e_li)))))) (show A543 4 (ln).toNat = le from (congrFun ((hF547.2 4 rfl).trans (((congrFun eA533 4).trans (uA_ne (by decide))).trans ((hF457.2 4 rfl).trans ((hF437.2 4 rfl).trans (hF422.2 4 rfl))))) _).trans (e_le)) (show A543 3 (ln2_544).toNat = A 3 (ln2_544).toNat from (congrFun ((hF547.2 3 rfl).trans (((congrFun eA533 3).trans (uA_ne (by decide))).trans ((hF457.2 3 rfl).trans ((hF437.2 3 rfl).trans (hF422.2 3 rfl))))) _)) (show ln2_544 = ln + 1 by omega) (by omega) hh
            refine jx_ld (pc' := 228) (l' := L447) (st' := [.ref 66]) rfl (jl_aloadn gL447_0) ?_
            refine jr_get (pc' := 231) (i := 38) (v := .ref 88) rfl rfl (by decide) rfl rfl ?_
            refine jx_ld (pc' := 232) (l' := L447) (st' := [.int (i32 (nd)), .ref 88]) rfl (jl_iloadn gL447_2) ?_
            refine jx_ld (pc' := 233) (l' := L447) (st' := [.ref 66, .int (i32 (nd)), .ref 88]) rfl (jl_aloadn gL447_0) ?_
            refine jx_vr (pc' := 236) (as := []) (st := [.int (i32 (nd)), .ref 88]) rfl rfl rfl rfl ⟨rfl, rfl, Nat.le_of_ble_eq_true rfl⟩ rfl rfl (c_bad (dd := d) (hd := by omega) (hW := hW546)  (fk := fk2_545) (e_fk := show G542 16 = fk2_545 from (e549))    ) (fun o V' hq => ?_)
            obtain ⟨r566, rfl, rfl, b567, q568⟩ := hq
            refine .inr ⟨_, rfl, ?_⟩
            rcases q568 with ⟨rfl, a569⟩ | ⟨rfl, a570⟩
            · have _q : True := trivial
              exfalso
              omega
            · have _q : True := trivial
              refine jx_if_eq (pc' := 239) (tg := 243) rfl rfl rfl (by decide) (by decide) (fun h571 => ?_) (fun h571 => ?_)
              · have _q := h571
                refine jx_ld (pc' := 244) (l' := L447) (st' := [.ref 66, .int (i32 (nd)), .ref 88]) rfl (jl_aloadn gL447_0) ?_
                refine jx_ld (pc' := 245) (l' := L447) (st' := [.int (i32 (lv)), .ref 66, .int (i32 (nd)), .ref 88]) rfl (jl_iloadn gL447_1) ?_
                refine jx_ar (pc' := 246) (st' := [.int (i32 (1)), .int (i32 (lv)), .ref 66, .int (i32 (nd)), .ref 88]) rfl rfl rfl rfl ?_
                refine jx_add (pc' := 247) rfl rfl ?_
                refine jx_vr (pc' := 250) (as := [.int (i32 ((lv + 1)))]) (st := [.int (i32 (nd)), .ref 88]) rfl rfl rfl rfl ⟨rfl, rfl, Nat.le_of_ble_eq_true rfl⟩ rfl rfl (hP (dd := d) (hd := by omega) (hW := hW546) (lv := (lv + 1)) (at0 := at2_451) (ln := ln2_544) (e_ln := show G542 9 = ln2_544 from (e548)) (li := li) (e_li := show G542 3 = li from ((hF547.1 3 rfl).trans ((hF457.1 3 rfl).trans ((hF437.1 3 rfl).trans ((hF422.1 3 rfl).trans (e_li)))))) (fk := fk2_545) (e_fk := show G542 16 = fk2_545 from (e549)) (nd := nd2_454) (e_nd := show G542 31 = nd2_454 from ((hF547.1 31 rfl).trans (e463))) (sy := sy) (e_sy := show G542 19 = sy from ((hF547.1 19 rfl).trans ((hF457.1 19 rfl).trans ((hF437.1 19 rfl).trans ((hF422.1 19 rfl).trans (e_sy)))))) (na := na) (e_na := show G542 28 = na from ((hF547.1 28 rfl).trans ((hF457.1 28 rfl).trans ((hF437.1 28 rfl).trans ((hF422.1 28 rfl).trans (e_na)))))) (vi := vi) (e_vi := show G542 29 = vi from ((hF547.1 29 rfl).trans ((hF457.1 29 rfl).trans ((hF437.1 29 rfl).trans ((hF422.1 29 rfl).trans (e_vi)))))) (lf := A 3 (ln2_544).toNat) (e_lf := show A543 3 (ln2_544).toNat = A 3 (ln2_544).toNat from (congrFun ((hF547.2 3 rfl).trans (((congrFun eA533 3).trans (uA_ne (by decide))).trans ((hF457.2 3 rfl).trans ((hF437.2 3 rfl).trans (hF422.2 3 rfl))))) _)) (ac := at2_451) (e_ac := show G542 10 = at2_451 from ((hF547.1 10 rfl).trans (e460))) (i_LT := (LT_ext (((hF547.1 3 rfl).trans ((hF457.1 3 rfl).trans ((hF437.1 3 rfl).trans (hF422.1 3 rfl))))) (((hF547.2 3 rfl).trans (((congrFun eA533 3).trans (uA_ne (by decide))).trans ((hF457.2 3 rfl).trans ((hF437.2 3 rfl).trans (hF422.2 3 rfl)))))) (((hF547.2 4 rfl).trans (((congrFun eA533 4).trans (uA_ne (by decide))).trans ((hF457.2 4 rfl).trans ((hF437.2 4 rfl).trans (hF422.2 4 rfl)))))) i_LT)) (i_SV := (SV_fx i_SV e_vi (show G542 29 = vi from ((hF547.1 29 rfl).trans ((hF457.1 29 rfl).trans ((hF437.1 29 rfl).trans ((hF422.1 29 rfl).trans (e_vi)))))) (by omega) hV554)) (i_PQ := (PQ_fx i_PQ hS553 (by omega) (hF551.2 29 rfl) (hF551.2 30 rfl))) (hvb := hvb) (h_lv := ⟨(by omega), (by omega)⟩)  (p_0 := by omega) (p_1 := by omega) (p_2 := by omega) (p_3 := by omega) (p_4 := by omega) (p_5 := by omega) (p_6 := by omega) (p_7 := by omega) (p_8 := by omega) (p_9 := by omega) (p_10 := by omega)) (fun o V' hq => ?_)
                obtain ⟨G572, A573, r574, ln2_575, at2_576, fk2_577, nd2_578, sy2_579, na2_580, vi2_581, lf2_582, rfl, rfl, hW583, hF584, hQ585, hQ586, hQ587, b588, e589, e590, e591, e592, e593, e594, e595, e596, p597, p598, p599, p600, p601, p602, p603, p604, p605, q606⟩ := hq
                have hF607 := Fr_tr hF551 hF584 (Fr_sub (by decide)) (Fr_sub (by decide))
                have k608 : A573 17 (nd).toNat = r450 := (hQ585 17 _ rfl (by omega)).trans (show A543 17 (nd).toNat = r450 from (congrFun (hF547.2 17 rfl) _).trans (q536))
                have hP609 := Pf_tr hP552 hQ585 (by omega)
                have hS610 := Fx_tr hS553 hQ586 (by omega)
                have hV611 := Fx_tr hV554 hQ587 (by omega)
                have sf612 : ND A573 (nd) (31) (r450) (0) (0) (0) (0) (0) := ND_ag (by omega) (Ag_pf hQ585 (by omega)) sf555
                have sf613 : wE A573 Vs sb (2 * 9 + 2) (r450) (nd2_435) (nd2_454) := wE_ag (by omega) (Fx_su hQ586 (by omega)) (Ag_pf hQ585 (by omega)) sf556
                have bln2_575 : (0 : Int) ≤ ln2_575 ∧ ln2_575 ≤ 3000 := e589 ▸ hW583.1 9
                have bat2_576 : (0 : Int) ≤ at2_576 ∧ at2_576 ≤ 3002 := e590 ▸ hW583.1 10
                have bfk2_577 : (0 : Int) ≤ fk2_577 ∧ fk2_577 ≤ 6 := e591 ▸ hW583.1 16
                have bnd2_578 : (0 : Int) ≤ nd2_578 ∧ nd2_578 ≤ 6999 := e592 ▸ hW583.1 31
                have bsy2_579 : (0 : Int) ≤ sy2_579 ∧ sy2_579 ≤ 202 := e593 ▸ hW583.1 19
                have bna2_580 : (0 : Int) ≤ na2_580 ∧ na2_580 ≤ 200 := e594 ▸ hW583.1 28
                have bvi2_581 : (0 : Int) ≤ vi2_581 ∧ vi2_581 ≤ 202 := e595 ▸ hW583.1 29
                have blf2_582 : (0 : Int) ≤ lf2_582 ∧ lf2_582 ≤ 3000 := e596 ▸ hW583.2 3 _
                refine .inr ⟨_, rfl, ?_⟩
                rcases q606 with ⟨a614, a615⟩ | ⟨a616, a617, a618, a619, a620, a621, a622, a623⟩
                · have _q : True := trivial
                  refine jr_st (pc' := 251) (i := 21) (m := 7000) (z := nd) (y := r574) rfl (by decide) rfl (by decide) (by omega) (by omega) rfl ?_
                  have hW625 : Wk G572 (uA A573 21 (nd).toNat (r574)) := Wk_a hW583 (show (-2147483648 : Int) ≤ r574 by omega) (show r574 ≤ (2147483647 : Int) by omega)
                  have hF626 := Fr_a (z := r574) (k := 21) (n := (nd).toNat) hF607 (by decide)
                  obtain ⟨A624, eA624⟩ : ∃ q, q = uA A573 21 (nd).toNat (r574) := ⟨_, rfl⟩
                  rw [← eA624]
                  rw [← eA624] at hW625 hF626
                  have q627 : A624 21 (nd).toNat = r574 := by rw [eA624]; exact uA_eq
                  have hP628 : Pf nd A A624 := eA624 ▸ Pf_a hP609 (z := nd) (by omega) (by omega)
                  have hS629 : Fx sr (sy) A A624 := eA624 ▸ Fx_n hS610 rfl
                  have hV630 : Fx [14] (vi) A A624 := eA624 ▸ Fx_n hV611 rfl
                  have sf631 : ND A624 (nd) (31) (r450) (0) (0) (0) (r574) (0) := ND_f eA624 sf612
                  have sf632 : wE A624 Vs sb (2 * 9 + 2) (r450) (nd2_435) (nd2_454) := wE_ag (by omega) (Sg_ne eA624 rfl) (Ag_st eA624 (by omega) (by omega)) sf613
                  refine jx_ld (pc' := 252) (l' := L447) (st' := [.int (i32 (nd))]) rfl (jl_iloadn gL447_2) ?_
                  refine jx_rt (v := some (.int (i32 (nd)))) rfl rfl rfl rfl rfl rfl ?_
                  exact ⟨_, _, _, ln2_575, at2_576, fk2_577, nd2_578, sy2_579, na2_580, vi2_581, lf2_582, rfl, rfl, hW625, hF626, hP628, hS629, hV630, by omega, (e589), (e590), (e591), (e592), (e593), (e594), (e595), (congrFun ((congrFun eA624 3).trans (uA_ne (by decide))) _).trans (e596), by omega, by omega, by omega, by omega, by omega, by omega, by omega, by omega, by omega, by omega, by first | exact Or.inl (⟨by omega, by omega⟩)⟩
                · have _q : True := trivial
                  refine jr_st (pc' := 251) (i := 21) (m := 7000) (z := nd) (y := r574) rfl (by decide) rfl (by decide) (by omega) (by omega) rfl ?_
                  have hW634 : Wk G572 (uA A573 21 (nd).toNat (r574)) := Wk_a hW583 (show (-2147483648 : Int) ≤ r574 by omega) (show r574 ≤ (2147483647 : Int) by omega)
                  have hF635 := Fr_a (z := r574) (k := 21) (n := (nd).toNat) hF607 (by decide)
                  obtain ⟨A633, eA633⟩ : ∃ q, q = uA A573 21 (nd).toNat (r574) := ⟨_, rfl⟩
                  rw [← eA633]
                  rw [← eA633] at hW634 hF635
                  have q636 : A633 21 (nd).toNat = r574 := by rw [eA633]; exact uA_eq
                  have hP637 : Pf nd A A633 := eA633 ▸ Pf_a hP609 (z := nd) (by omega) (by omega)
                  have hS638 : Fx sr (sy) A A633 := eA633 ▸ Fx_n hS610 rfl
                  have hV639 : Fx [14] (vi) A A633 := eA633 ▸ Fx_n hV611 rfl
                  have sf640 : ND A633 (nd) (31) (r450) (0) (0) (0) (r574) (0) := ND_f eA633 sf612
                  have sf641 : wE A633 Vs sb (2 * 9 + 2) (r450) (nd2_435) (nd2_454) := wE_ag (by omega) (Sg_ne eA633 rfl) (Ag_st eA633 (by omega) (by omega)) sf613
                  have sf642 : wP A633 (sy2_579) pb (k) (Vs) (r574) (nd2_454) (nd2_578) (sy) (sy2_579) := wP_ag (Sg_ne eA633 rfl) (Qg_ne eA633 rfl) (by omega) (by omega) (Ax_ag (Ag_st eA633 (by omega) (by omega))) a622
                  have sf643 : NX A633 (r574) := NX_r eA633 (by decide) a623
                  refine jx_ld (pc' := 252) (l' := L447) (st' := [.int (i32 (nd))]) rfl (jl_iloadn gL447_2) ?_
                  refine jx_rt (v := some (.int (i32 (nd)))) rfl rfl rfl rfl rfl rfl ?_
                  exact ⟨_, _, _, ln2_575, at2_576, fk2_577, nd2_578, sy2_579, na2_580, vi2_581, lf2_582, rfl, rfl, hW634, hF635, hP637, hS638, hV639, by omega, (e589), (e590), (e591), (e592), (e593), (e594), (e595), (congrFun ((congrFun eA633 3).trans (uA_ne (by decide))) _).trans (e596), by omega, by omega, by omega, by omega, by omega, by omega, by omega, by omega, by omega, by omega, by first | exact Or.inr ((⟨by omega, by omega, by omega, by omega, by omega, by omega, by omega, (wS_while (u := nd2_454) sf640 (by omega) (by omega) (wE_sb (by omega) (wE_mono (by omega) (by omega) (by omega) sf641)) (wP_eq sf642 (by omega) rfl (by omega) (by omega) (by omega) (by omega) (by omega) (by omega))), (NX_nd sf640)⟩))⟩
              · have _q := h571
                exact absurd h571 (by omega)
          · have _q : True := trivial
            refine jx_ld (pc' := 228) (l' := L447) (st' := [.ref 66]) rfl (jl_aloadn gL447_0) ?_
            refine jr_get (pc' := 231) (i := 38) (v := .ref 88) rfl rfl (by decide) rfl rfl ?_
            refine jx_ld (pc' := 232) (l' := L447) (st' := [.int (i32 (nd)), .ref 88]) rfl (jl_iloadn gL447_2) ?_
            refine jx_ld (pc' := 233) (l' := L447) (st' := [.ref 66, .int (i32 (nd)), .ref 88]) rfl (jl_aloadn gL447_0) ?_
            refine jx_vr (pc' := 236) (as := []) (st := [.int (i32 (nd)), .ref 88]) rfl rfl rfl rfl ⟨rfl, rfl, Nat.le_of_ble_eq_true rfl⟩ rfl rfl (c_bad (dd := d) (hd := by omega) (hW := hW546)  (fk := fk2_545) (e_fk := show G542 16 = fk2_545 from (e549))    ) (fun o V' hq => ?_)
            obtain ⟨r644, rfl, rfl, b645, q646⟩ := hq
            refine .inr ⟨_, rfl, ?_⟩
            rcases q646 with ⟨rfl, a647⟩ | ⟨rfl, a648⟩
            · have _q : True := trivial
              refine jx_if_eq (pc' := 239) (tg := 243) rfl rfl rfl (by decide) (by decide) (fun h649 => ?_) (fun h649 => ?_)
              · have _q := h649
                exact absurd h649 (by omega)
              · have _q := h649
                refine jx_ar (pc' := 240) (st' := [.int (i32 (0)), .int (i32 (nd)), .ref 88]) rfl rfl rfl rfl ?_
                refine jx_go (tg := 250) rfl rfl ?_
                refine jr_st (pc' := 251) (i := 21) (m := 7000) (z := nd) (y := 0) rfl (by decide) rfl (by decide) (by omega) (by omega) rfl ?_
                have hW651 : Wk G542 (uA A543 21 (nd).toNat (0)) := Wk_a hW546 (show (-2147483648 : Int) ≤ 0 by omega) (show 0 ≤ (2147483647 : Int) by omega)
                have hF652 := Fr_a (z := 0) (k := 21) (n := (nd).toNat) hF551 (by decide)
                obtain ⟨A650, eA650⟩ : ∃ q, q = uA A543 21 (nd).toNat (0) := ⟨_, rfl⟩
                rw [← eA650]
                rw [← eA650] at hW651 hF652
                have q653 : A650 21 (nd).toNat = 0 := by rw [eA650]; exact uA_eq
                have hP654 : Pf nd A A650 := eA650 ▸ Pf_a hP552 (z := nd) (by omega) (by omega)
                have hS655 : Fx sr (sy) A A650 := eA650 ▸ Fx_n hS553 rfl
                have hV656 : Fx [14] (vi) A A650 := eA650 ▸ Fx_n hV554 rfl
                have sf657 : ND A650 (nd) (31) (r450) (0) (0) (0) (0) (0) := ND_f eA650 sf555
                have sf658 : wE A650 Vs sb (2 * 9 + 2) (r450) (nd2_435) (nd2_454) := wE_ag (by omega) (Sg_ne eA650 rfl) (Ag_st eA650 (by omega) (by omega)) sf556
                refine jx_ld (pc' := 252) (l' := L447) (st' := [.int (i32 (nd))]) rfl (jl_iloadn gL447_2) ?_
                refine jx_rt (v := some (.int (i32 (nd)))) rfl rfl rfl rfl rfl rfl ?_
                exact ⟨_, _, _, ln2_544, at2_451, fk2_545, nd2_454, sy, na, vi, A 3 (ln2_544).toNat, rfl, rfl, hW651, hF652, hP654, hS655, hV656, by omega, (e548), ((hF547.1 10 rfl).trans (e460)), (e549), ((hF547.1 31 rfl).trans (e463)), ((hF547.1 19 rfl).trans ((hF457.1 19 rfl).trans ((hF437.1 19 rfl).trans ((hF422.1 19 rfl).trans (e_sy))))), ((hF547.1 28 rfl).trans ((hF457.1 28 rfl).trans ((hF437.1 28 rfl).trans ((hF422.1 28 rfl).trans (e_na))))), ((hF547.1 29 rfl).trans ((hF457.1 29 rfl).trans ((hF437.1 29 rfl).trans ((hF422.1 29 rfl).trans (e_vi))))), (congrFun (((congrFun eA650 3).trans (uA_ne (by decide))).trans ((hF547.2 3 rfl).trans (((congrFun eA533 3).trans (uA_ne (by decide))).trans ((hF457.2 3 rfl).trans ((hF437.2 3 rfl).trans (hF422.2 3 rfl)))))) _), by omega, by omega, by omega, by omega, by omega, by omega, by omega, by omega, by omega, by omega, by first | exact Or.inl (⟨by omega, by omega⟩)⟩
            · have _q : True := trivial
              exfalso
              omega
      · refine jx_swe (z := 7) (tg := 88) h8 rfl rfl rfl rfl ?_
        refine jx_ld (pc' := 89) (l' := L7) (st' := [.ref 66]) rfl (jl_aloadn gL7_0) ?_
        refine jx_ld (pc' := 90) (l' := L7) (st' := [.int (i32 (G 13)), .ref 66]) rfl (jl_iloadn gL7_3) ?_
        refine jx_ar (pc' := 92) (st' := [.int (i32 (7)), .int (i32 (G 13)), .ref 66]) rfl rfl rfl rfl ?_
        refine jx_icmp_ne (pc' := 95) (tg := 100) rfl rfl rfl (Int.le_trans (by decide : (-2147483648 : Int) ≤ -2147483648) b6.1) (Int.le_trans b6.2 (by decide : (2147483647 : Int) ≤ 2147483647)) (by decide) (by decide) (fun h659 => ?_) (fun h659 => ?_)
        · have _q := h659
          refine jx_ar (pc' := 102) (st' := [.int (i32 (21)), .ref 66]) rfl rfl rfl rfl ?_
          refine jx_ar (pc' := 103) (st' := [.int (i32 (0)), .int (i32 (21)), .ref 66]) rfl rfl rfl rfl ?_
          refine jx_ar (pc' := 104) (st' := [.int (i32 (0)), .int (i32 (0)), .int (i32 (21)), .ref 66]) rfl rfl rfl rfl ?_
          refine jx_ar (pc' := 105) (st' := [.int (i32 (0)), .int (i32 (0)), .int (i32 (0)), .int (i32 (21)), .ref 66]) rfl rfl rfl rfl ?_
          refine jx_ar (pc' := 106) (st' := [.int (i32 (0)), .int (i32 (0)), .int (i32 (0)), .int (i32 (0)), .int (i32 (21)), .ref 66]) rfl rfl rfl rfl ?_
          refine jx_vr (pc' := 109) (as := [.int (i32 (21)), .int (i32 (0)), .int (i32 (0)), .int (i32 (0)), .int (i32 (0))]) (st := []) rfl rfl rfl rfl ⟨rfl, rfl, Nat.le_of_ble_eq_true rfl⟩ rfl rfl (c_node (dd := d) (hd := by omega) (hW := hW) (kind := 21) (a := 0) (b := 0) (c := 0) (e := 0) (nd := nd) (e_nd := show G 31 = nd from (e_nd))  (h_kind := ⟨(by decide), (by decide)⟩) (h_a := ⟨(by decide), (by decide)⟩) (h_b := ⟨(by decide), (by decide)⟩) (h_c := ⟨(by decide), (by decide)⟩) (h_e := ⟨(by decide), (by decide)⟩)  (p_0 := by omega) (p_1 := by omega)) (fun o V' hq => ?_)
          obtain ⟨G660, A661, nd2_662, rfl, rfl, hW663, hF664, hQ665, e666, p667, p668, -⟩ := hq
          have hF670 := Fr_tr hF0 hF664 (Fr_sub (by decide)) (Fr_sub (by decide))
          have hP671 := Pf_tr hP0 hQ665 (by omega)
          have hS672 := Fx_f hS0 hF664 (by decide)
          have hV673 := Fx_f hV0 hF664 (by decide)
          have bnd2_662 : (0 : Int) ≤ nd2_662 ∧ nd2_662 ≤ 6999 := e666 ▸ hW663.1 31
          refine .inr ⟨_, rfl, ?_⟩
          refine jx_ld (pc' := 110) (l' := jSto1 L7 2 (.int (i32 (nd)))) (st' := []) rfl rfl ?_
          obtain ⟨L674, eL674⟩ : ∃ q, q = jSto1 L7 2 (.int (i32 (nd))) := ⟨_, rfl⟩
          rw [← eL674]
          have gL674_0 : jGet L674 0 = some (.ref 66) := eL674 ▸ jg_ne (by decide) gL7_0 rfl
          have gL674_1 : jGet L674 1 = some (.int (i32 (lv))) := eL674 ▸ jg_ne (by decide) gL7_1 rfl
          have gL674_3 : jGet L674 3 = some (.int (i32 (G 13))) := eL674 ▸ jg_ne (by decide) gL7_3 rfl
          have gL674_2 : jGet L674 2 = some (.int (i32 (nd))) := eL674 ▸ jg_eq
          refine jx_ld (pc' := 111) (l' := L674) (st' := [.ref 66]) rfl (jl_aloadn gL674_0) ?_
          refine jx_vr (pc' := 114) (as := []) (st := []) rfl rfl rfl rfl ⟨rfl, rfl, Nat.le_of_ble_eq_true rfl⟩ rfl rfl (c_next (dd := d) (hd := by omega) (hW := hW663)  (ln := ln) (e_ln := show G660 9 = ln from ((hF664.1 9 rfl).trans (e_ln))) (le := le) (e_le := show A661 4 (ln).toNat = le from (congrFun (hF664.2 4 rfl) _).trans (e_le)) (at0 := at0) (e_at0 := show G660 10 = at0 from ((hF664.1 10 rfl).trans (e_at0)))    (p_0 := by omega)) (fun o V' hq => ?_)
          obtain ⟨G675, A676, at2_677, tk2_678, rfl, rfl, hW679, hF680, e681, e682, p683, p684, p685, -⟩ := hq
          have hF687 := Fr_tr hF670 hF680 (Fr_sub (by decide)) (Fr_sub (by decide))
          have hP688 := Pf_f hP671 hF680 (by decide)
          have hS689 := Fx_f hS672 hF680 (by decide)
          have hV690 := Fx_f hV673 hF680 (by decide)
          have sf691 : ND A676 (nd) (21) (0) (0) (0) (0) (0) (0) := ND_ag (by omega) (Ag_fr hF680 (by decide)) p668
          have bat2_677 : (0 : Int) ≤ at2_677 ∧ at2_677 ≤ 3002 := e681 ▸ hW679.1 10
          have ztk2_678 := tz_b tk2_678
          have btk2_678 : (0 : Int) ≤ tk2_678 ∧ tk2_678 ≤ 5 := e682 ▸ hW679.1 11
          refine .inl ⟨rfl, ?_⟩
          refine jx_ld (pc' := 115) (l' := L674) (st' := [.ref 66]) rfl (jl_aloadn gL674_0) ?_
          refine jx_vr (pc' := 118) (as := []) (st := []) rfl rfl rfl rfl ⟨rfl, rfl, Nat.le_of_ble_eq_true rfl⟩ rfl rfl (c_endLine (dd := d) (hd := by omega) (hW := hW679)  (ln := ln) (e_ln := show G675 9 = ln from ((hF680.1 9 rfl).trans ((hF664.1 9 rfl).trans (e_ln)))) (li := li) (e_li := show G675 3 = li from ((hF680.1 3 rfl).trans ((hF664.1 3 rfl).trans (e_li)))) (fk := fk) (e_fk := show G675 16 = fk from ((hF680.1 16 rfl).trans ((hF664.1 16 rfl).trans (e_fk)))) (tk0 := tk2_678) (e_tk0 := show G675 11 = tk2_678 from (e682))    (p_0 := by omega)) (fun o V' hq => ?_)
          obtain ⟨G692, A693, ln2_694, fk2_695, rfl, rfl, hW696, hF697, e698, e699, q700⟩ := hq
          have hF701 := Fr_tr hF687 hF697 (Fr_sub (by decide)) (Fr_sub (by decide))
          have hP702 := Pf_f hP688 hF697 (by decide)
          have hS703 := Fx_f hS689 hF697 (by decide)
          have hV704 := Fx_f hV690 hF697 (by decide)
          have sf705 : ND A693 (nd) (21) (0) (0) (0) (0) (0) (0) := ND_ag (by omega) (Ag_fr hF697 (by decide)) sf691
          have bln2_694 : (0 : Int) ≤ ln2_694 ∧ ln2_694 ≤ 3000 := e698 ▸ hW696.1 9
          have bfk2_695 : (0 : Int) ≤ fk2_695 ∧ fk2_695 ≤ 6 := e699 ▸ hW696.1 16
          refine .inl ⟨rfl, ?_⟩
          rcases q700 with ⟨a706, a707, a708, a709, a710⟩ | ⟨a711, a712⟩
          · have _q : True := trivial
            have b713 : (0 : Int) ≤ A 3 (ln2_694).toNat ∧ A 3 (ln2_694).toNat ≤ 3000 := hW.2 3 _
            have lt714 : ln2_694 < li → le < A 3 (ln2_694).toNat := fun hh => LT_nx (LT_ext (((hF697.1 3 rfl).trans ((hF680.1 3 rfl).trans (hF664.1 3 rfl)))) (((hF697.2 3 rfl).trans ((hF680.2 3 rfl).trans (hF664.2 3 rfl)))) (((hF697.2 4 rfl).trans ((hF680.2 4 rfl).trans (hF664.2 4 rfl)))) i_LT) (show G692 3 = li from ((hF697.1 3 rfl).trans ((hF680.1 3 rfl).trans ((hF664.1 3 rfl).trans (e_li))))) (show A693 4 (ln).toNat = le from (congrFun ((hF697.2 4 rfl).trans ((hF680.2 4 rfl).trans (hF664.2 4 rfl))) _).trans (e_le)) (show A693 3 (ln2_694).toNat = A 3 (ln2_694).toNat from (congrFun ((hF697.2 3 rfl).trans ((hF680.2 3 rfl).trans (hF664.2 3 rfl))) _)) (show ln2_694 = ln + 1 by omega) (by omega) hh
            refine jx_ld (pc' := 119) (l' := L674) (st' := [.int (i32 (nd))]) rfl (jl_iloadn gL674_2) ?_
            refine jx_rt (v := some (.int (i32 (nd)))) rfl rfl rfl rfl rfl rfl ?_
            exact ⟨_, _, _, ln2_694, at2_677, fk2_695, nd2_662, sy, na, vi, A 3 (ln2_694).toNat, rfl, rfl, hW696, hF701, hP702, hS703, hV704, by omega, (e698), ((hF697.1 10 rfl).trans (e681)), (e699), ((hF697.1 31 rfl).trans ((hF680.1 31 rfl).trans (e666))), ((hF697.1 19 rfl).trans ((hF680.1 19 rfl).trans ((hF664.1 19 rfl).trans (e_sy)))), ((hF697.1 28 rfl).trans ((hF680.1 28 rfl).trans ((hF664.1 28 rfl).trans (e_na)))), ((hF697.1 29 rfl).trans ((hF680.1 29 rfl).trans ((hF664.1 29 rfl).trans (e_vi)))), (congrFun ((hF697.2 3 rfl).trans ((hF680.2 3 rfl).trans (hF664.2 3 rfl))) _), by omega, by omega, by omega, by omega, by omega, by omega, by omega, by omega, by omega, by omega, by first | exact Or.inr ((⟨by omega, by omega, by omega, by omega, by omega, by omega, by omega, (wS_skip sf705 (by omega) (by omega)), (NX_nd sf705)⟩))⟩
          · have _q : True := trivial
            refine jx_ld (pc' := 119) (l' := L674) (st' := [.int (i32 (nd))]) rfl (jl_iloadn gL674_2) ?_
            refine jx_rt (v := some (.int (i32 (nd)))) rfl rfl rfl rfl rfl rfl ?_
            exact ⟨_, _, _, ln2_694, at2_677, fk2_695, nd2_662, sy, na, vi, A 3 (ln2_694).toNat, rfl, rfl, hW696, hF701, hP702, hS703, hV704, by omega, (e698), ((hF697.1 10 rfl).trans (e681)), (e699), ((hF697.1 31 rfl).trans ((hF680.1 31 rfl).trans (e666))), ((hF697.1 19 rfl).trans ((hF680.1 19 rfl).trans ((hF664.1 19 rfl).trans (e_sy)))), ((hF697.1 28 rfl).trans ((hF680.1 28 rfl).trans ((hF664.1 28 rfl).trans (e_na)))), ((hF697.1 29 rfl).trans ((hF680.1 29 rfl).trans ((hF664.1 29 rfl).trans (e_vi)))), (congrFun ((hF697.2 3 rfl).trans ((hF680.2 3 rfl).trans (hF664.2 3 rfl))) _), by omega, by omega, by omega, by omega, by omega, by omega, by omega, by omega, by omega, by omega, by first | exact Or.inl (⟨by omega, by omega⟩)⟩
        · have _q := h659
          refine jx_ar (pc' := 97) (st' := [.int (i32 (20)), .ref 66]) rfl rfl rfl rfl ?_
          refine jx_go (tg := 102) rfl rfl ?_
          refine jx_ar (pc' := 103) (st' := [.int (i32 (0)), .int (i32 (20)), .ref 66]) rfl rfl rfl rfl ?_
          refine jx_ar (pc' := 104) (st' := [.int (i32 (0)), .int (i32 (0)), .int (i32 (20)), .ref 66]) rfl rfl rfl rfl ?_
          refine jx_ar (pc' := 105) (st' := [.int (i32 (0)), .int (i32 (0)), .int (i32 (0)), .int (i32 (20)), .ref 66]) rfl rfl rfl rfl ?_
          refine jx_ar (pc' := 106) (st' := [.int (i32 (0)), .int (i32 (0)), .int (i32 (0)), .int (i32 (0)), .int (i32 (20)), .ref 66]) rfl rfl rfl rfl ?_
          refine jx_vr (pc' := 109) (as := [.int (i32 (20)), .int (i32 (0)), .int (i32 (0)), .int (i32 (0)), .int (i32 (0))]) (st := []) rfl rfl rfl rfl ⟨rfl, rfl, Nat.le_of_ble_eq_true rfl⟩ rfl rfl (c_node (dd := d) (hd := by omega) (hW := hW) (kind := 20) (a := 0) (b := 0) (c := 0) (e := 0) (nd := nd) (e_nd := show G 31 = nd from (e_nd))  (h_kind := ⟨(by decide), (by decide)⟩) (h_a := ⟨(by decide), (by decide)⟩) (h_b := ⟨(by decide), (by decide)⟩) (h_c := ⟨(by decide), (by decide)⟩) (h_e := ⟨(by decide), (by decide)⟩)  (p_0 := by omega) (p_1 := by omega)) (fun o V' hq => ?_)
          obtain ⟨G715, A716, nd2_717, rfl, rfl, hW718, hF719, hQ720, e721, p722, p723, -⟩ := hq
          have hF725 := Fr_tr hF0 hF719 (Fr_sub (by decide)) (Fr_sub (by decide))
          have hP726 := Pf_tr hP0 hQ720 (by omega)
          have hS727 := Fx_f hS0 hF719 (by decide)
          have hV728 := Fx_f hV0 hF719 (by decide)
          have bnd2_717 : (0 : Int) ≤ nd2_717 ∧ nd2_717 ≤ 6999 := e721 ▸ hW718.1 31
          refine .inr ⟨_, rfl, ?_⟩
          refine jx_ld (pc' := 110) (l' := jSto1 L7 2 (.int (i32 (nd)))) (st' := []) rfl rfl ?_
          obtain ⟨L729, eL729⟩ : ∃ q, q = jSto1 L7 2 (.int (i32 (nd))) := ⟨_, rfl⟩
          rw [← eL729]
          have gL729_0 : jGet L729 0 = some (.ref 66) := eL729 ▸ jg_ne (by decide) gL7_0 rfl
          have gL729_1 : jGet L729 1 = some (.int (i32 (lv))) := eL729 ▸ jg_ne (by decide) gL7_1 rfl
          have gL729_3 : jGet L729 3 = some (.int (i32 (G 13))) := eL729 ▸ jg_ne (by decide) gL7_3 rfl
          have gL729_2 : jGet L729 2 = some (.int (i32 (nd))) := eL729 ▸ jg_eq
          refine jx_ld (pc' := 111) (l' := L729) (st' := [.ref 66]) rfl (jl_aloadn gL729_0) ?_
          refine jx_vr (pc' := 114) (as := []) (st := []) rfl rfl rfl rfl ⟨rfl, rfl, Nat.le_of_ble_eq_true rfl⟩ rfl rfl (c_next (dd := d) (hd := by omega) (hW := hW718)  (ln := ln) (e_ln := show G715 9 = ln from ((hF719.1 9 rfl).trans (e_ln))) (le := le) (e_le := show A716 4 (ln).toNat = le from (congrFun (hF719.2 4 rfl) _).trans (e_le)) (at0 := at0) (e_at0 := show G715 10 = at0 from ((hF719.1 10 rfl).trans (e_at0)))    (p_0 := by omega)) (fun o V' hq => ?_)
          obtain ⟨G730, A731, at2_732, tk2_733, rfl, rfl, hW734, hF735, e736, e737, p738, p739, p740, -⟩ := hq
          have hF742 := Fr_tr hF725 hF735 (Fr_sub (by decide)) (Fr_sub (by decide))
          have hP743 := Pf_f hP726 hF735 (by decide)
          have hS744 := Fx_f hS727 hF735 (by decide)
          have hV745 := Fx_f hV728 hF735 (by decide)
          have sf746 : ND A731 (nd) (20) (0) (0) (0) (0) (0) (0) := ND_ag (by omega) (Ag_fr hF735 (by decide)) p723
          have bat2_732 : (0 : Int) ≤ at2_732 ∧ at2_732 ≤ 3002 := e736 ▸ hW734.1 10
          have ztk2_733 := tz_b tk2_733
          have btk2_733 : (0 : Int) ≤ tk2_733 ∧ tk2_733 ≤ 5 := e737 ▸ hW734.1 11
          refine .inl ⟨rfl, ?_⟩
          refine jx_ld (pc' := 115) (l' := L729) (st' := [.ref 66]) rfl (jl_aloadn gL729_0) ?_
          refine jx_vr (pc' := 118) (as := []) (st := []) rfl rfl rfl rfl ⟨rfl, rfl, Nat.le_of_ble_eq_true rfl⟩ rfl rfl (c_endLine (dd := d) (hd := by omega) (hW := hW734)  (ln := ln) (e_ln := show G730 9 = ln from ((hF735.1 9 rfl).trans ((hF719.1 9 rfl).trans (e_ln)))) (li := li) (e_li := show G730 3 = li from ((hF735.1 3 rfl).trans ((hF719.1 3 rfl).trans (e_li)))) (fk := fk) (e_fk := show G730 16 = fk from ((hF735.1 16 rfl).trans ((hF719.1 16 rfl).trans (e_fk)))) (tk0 := tk2_733) (e_tk0 := show G730 11 = tk2_733 from (e737))    (p_0 := by omega)) (fun o V' hq => ?_)
          obtain ⟨G747, A748, ln2_749, fk2_750, rfl, rfl, hW751, hF752, e753, e754, q755⟩ := hq
          have hF756 := Fr_tr hF742 hF752 (Fr_sub (by decide)) (Fr_sub (by decide))
          have hP757 := Pf_f hP743 hF752 (by decide)
          have hS758 := Fx_f hS744 hF752 (by decide)
          have hV759 := Fx_f hV745 hF752 (by decide)
          have sf760 : ND A748 (nd) (20) (0) (0) (0) (0) (0) (0) := ND_ag (by omega) (Ag_fr hF752 (by decide)) sf746
          have bln2_749 : (0 : Int) ≤ ln2_749 ∧ ln2_749 ≤ 3000 := e753 ▸ hW751.1 9
          have bfk2_750 : (0 : Int) ≤ fk2_750 ∧ fk2_750 ≤ 6 := e754 ▸ hW751.1 16
          refine .inl ⟨rfl, ?_⟩
          rcases q755 with ⟨a761, a762, a763, a764, a765⟩ | ⟨a766, a767⟩
          · have _q : True := trivial
            have b768 : (0 : Int) ≤ A 3 (ln2_749).toNat ∧ A 3 (ln2_749).toNat ≤ 3000 := hW.2 3 _
            have lt769 : ln2_749 < li → le < A 3 (ln2_749).toNat := fun hh => LT_nx (LT_ext (((hF752.1 3 rfl).trans ((hF735.1 3 rfl).trans (hF719.1 3 rfl)))) (((hF752.2 3 rfl).trans ((hF735.2 3 rfl).trans (hF719.2 3 rfl)))) (((hF752.2 4 rfl).trans ((hF735.2 4 rfl).trans (hF719.2 4 rfl)))) i_LT) (show G747 3 = li from ((hF752.1 3 rfl).trans ((hF735.1 3 rfl).trans ((hF719.1 3 rfl).trans (e_li))))) (show A748 4 (ln).toNat = le from (congrFun ((hF752.2 4 rfl).trans ((hF735.2 4 rfl).trans (hF719.2 4 rfl))) _).trans (e_le)) (show A748 3 (ln2_749).toNat = A 3 (ln2_749).toNat from (congrFun ((hF752.2 3 rfl).trans ((hF735.2 3 rfl).trans (hF719.2 3 rfl))) _)) (show ln2_749 = ln + 1 by omega) (by omega) hh
            refine jx_ld (pc' := 119) (l' := L729) (st' := [.int (i32 (nd))]) rfl (jl_iloadn gL729_2) ?_
            refine jx_rt (v := some (.int (i32 (nd)))) rfl rfl rfl rfl rfl rfl ?_
            exact ⟨_, _, _, ln2_749, at2_732, fk2_750, nd2_717, sy, na, vi, A 3 (ln2_749).toNat, rfl, rfl, hW751, hF756, hP757, hS758, hV759, by omega, (e753), ((hF752.1 10 rfl).trans (e736)), (e754), ((hF752.1 31 rfl).trans ((hF735.1 31 rfl).trans (e721))), ((hF752.1 19 rfl).trans ((hF735.1 19 rfl).trans ((hF719.1 19 rfl).trans (e_sy)))), ((hF752.1 28 rfl).trans ((hF735.1 28 rfl).trans ((hF719.1 28 rfl).trans (e_na)))), ((hF752.1 29 rfl).trans ((hF735.1 29 rfl).trans ((hF719.1 29 rfl).trans (e_vi)))), (congrFun ((hF752.2 3 rfl).trans ((hF735.2 3 rfl).trans (hF719.2 3 rfl))) _), by omega, by omega, by omega, by omega, by omega, by omega, by omega, by omega, by omega, by omega, by first | exact Or.inr ((⟨by omega, by omega, by omega, by omega, by omega, by omega, by omega, (wS_skip sf760 (by omega) (by omega)), (NX_nd sf760)⟩))⟩
          · have _q : True := trivial
            refine jx_ld (pc' := 119) (l' := L729) (st' := [.int (i32 (nd))]) rfl (jl_iloadn gL729_2) ?_
            refine jx_rt (v := some (.int (i32 (nd)))) rfl rfl rfl rfl rfl rfl ?_
            exact ⟨_, _, _, ln2_749, at2_732, fk2_750, nd2_717, sy, na, vi, A 3 (ln2_749).toNat, rfl, rfl, hW751, hF756, hP757, hS758, hV759, by omega, (e753), ((hF752.1 10 rfl).trans (e736)), (e754), ((hF752.1 31 rfl).trans ((hF735.1 31 rfl).trans (e721))), ((hF752.1 19 rfl).trans ((hF735.1 19 rfl).trans ((hF719.1 19 rfl).trans (e_sy)))), ((hF752.1 28 rfl).trans ((hF735.1 28 rfl).trans ((hF719.1 28 rfl).trans (e_na)))), ((hF752.1 29 rfl).trans ((hF735.1 29 rfl).trans ((hF719.1 29 rfl).trans (e_vi)))), (congrFun ((hF752.2 3 rfl).trans ((hF735.2 3 rfl).trans (hF719.2 3 rfl))) _), by omega, by omega, by omega, by omega, by omega, by omega, by omega, by omega, by omega, by omega, by first | exact Or.inl (⟨by omega, by omega⟩)⟩
      · refine jx_swe (z := 8) (tg := 88) h8 rfl rfl rfl rfl ?_
        refine jx_ld (pc' := 89) (l' := L7) (st' := [.ref 66]) rfl (jl_aloadn gL7_0) ?_
        refine jx_ld (pc' := 90) (l' := L7) (st' := [.int (i32 (G 13)), .ref 66]) rfl (jl_iloadn gL7_3) ?_
        refine jx_ar (pc' := 92) (st' := [.int (i32 (7)), .int (i32 (G 13)), .ref 66]) rfl rfl rfl rfl ?_
        refine jx_icmp_ne (pc' := 95) (tg := 100) rfl rfl rfl (Int.le_trans (by decide : (-2147483648 : Int) ≤ -2147483648) b6.1) (Int.le_trans b6.2 (by decide : (2147483647 : Int) ≤ 2147483647)) (by decide) (by decide) (fun h770 => ?_) (fun h770 => ?_)
        · have _q := h770
          refine jx_ar (pc' := 102) (st' := [.int (i32 (21)), .ref 66]) rfl rfl rfl rfl ?_
          refine jx_ar (pc' := 103) (st' := [.int (i32 (0)), .int (i32 (21)), .ref 66]) rfl rfl rfl rfl ?_
          refine jx_ar (pc' := 104) (st' := [.int (i32 (0)), .int (i32 (0)), .int (i32 (21)), .ref 66]) rfl rfl rfl rfl ?_
          refine jx_ar (pc' := 105) (st' := [.int (i32 (0)), .int (i32 (0)), .int (i32 (0)), .int (i32 (21)), .ref 66]) rfl rfl rfl rfl ?_
          refine jx_ar (pc' := 106) (st' := [.int (i32 (0)), .int (i32 (0)), .int (i32 (0)), .int (i32 (0)), .int (i32 (21)), .ref 66]) rfl rfl rfl rfl ?_
          refine jx_vr (pc' := 109) (as := [.int (i32 (21)), .int (i32 (0)), .int (i32 (0)), .int (i32 (0)), .int (i32 (0))]) (st := []) rfl rfl rfl rfl ⟨rfl, rfl, Nat.le_of_ble_eq_true rfl⟩ rfl rfl (c_node (dd := d) (hd := by omega) (hW := hW) (kind := 21) (a := 0) (b := 0) (c := 0) (e := 0) (nd := nd) (e_nd := show G 31 = nd from (e_nd))  (h_kind := ⟨(by decide), (by decide)⟩) (h_a := ⟨(by decide), (by decide)⟩) (h_b := ⟨(by decide), (by decide)⟩) (h_c := ⟨(by decide), (by decide)⟩) (h_e := ⟨(by decide), (by decide)⟩)  (p_0 := by omega) (p_1 := by omega)) (fun o V' hq => ?_)
          obtain ⟨G771, A772, nd2_773, rfl, rfl, hW774, hF775, hQ776, e777, p778, p779, -⟩ := hq
          have hF781 := Fr_tr hF0 hF775 (Fr_sub (by decide)) (Fr_sub (by decide))
          have hP782 := Pf_tr hP0 hQ776 (by omega)
          have hS783 := Fx_f hS0 hF775 (by decide)
          have hV784 := Fx_f hV0 hF775 (by decide)
          have bnd2_773 : (0 : Int) ≤ nd2_773 ∧ nd2_773 ≤ 6999 := e777 ▸ hW774.1 31
          refine .inr ⟨_, rfl, ?_⟩
          refine jx_ld (pc' := 110) (l' := jSto1 L7 2 (.int (i32 (nd)))) (st' := []) rfl rfl ?_
          obtain ⟨L785, eL785⟩ : ∃ q, q = jSto1 L7 2 (.int (i32 (nd))) := ⟨_, rfl⟩
          rw [← eL785]
          have gL785_0 : jGet L785 0 = some (.ref 66) := eL785 ▸ jg_ne (by decide) gL7_0 rfl
          have gL785_1 : jGet L785 1 = some (.int (i32 (lv))) := eL785 ▸ jg_ne (by decide) gL7_1 rfl
          have gL785_3 : jGet L785 3 = some (.int (i32 (G 13))) := eL785 ▸ jg_ne (by decide) gL7_3 rfl
          have gL785_2 : jGet L785 2 = some (.int (i32 (nd))) := eL785 ▸ jg_eq
          refine jx_ld (pc' := 111) (l' := L785) (st' := [.ref 66]) rfl (jl_aloadn gL785_0) ?_
          refine jx_vr (pc' := 114) (as := []) (st := []) rfl rfl rfl rfl ⟨rfl, rfl, Nat.le_of_ble_eq_true rfl⟩ rfl rfl (c_next (dd := d) (hd := by omega) (hW := hW774)  (ln := ln) (e_ln := show G771 9 = ln from ((hF775.1 9 rfl).trans (e_ln))) (le := le) (e_le := show A772 4 (ln).toNat = le from (congrFun (hF775.2 4 rfl) _).trans (e_le)) (at0 := at0) (e_at0 := show G771 10 = at0 from ((hF775.1 10 rfl).trans (e_at0)))    (p_0 := by omega)) (fun o V' hq => ?_)
          obtain ⟨G786, A787, at2_788, tk2_789, rfl, rfl, hW790, hF791, e792, e793, p794, p795, p796, -⟩ := hq
          have hF798 := Fr_tr hF781 hF791 (Fr_sub (by decide)) (Fr_sub (by decide))
          have hP799 := Pf_f hP782 hF791 (by decide)
          have hS800 := Fx_f hS783 hF791 (by decide)
          have hV801 := Fx_f hV784 hF791 (by decide)
          have sf802 : ND A787 (nd) (21) (0) (0) (0) (0) (0) (0) := ND_ag (by omega) (Ag_fr hF791 (by decide)) p779
          have bat2_788 : (0 : Int) ≤ at2_788 ∧ at2_788 ≤ 3002 := e792 ▸ hW790.1 10
          have ztk2_789 := tz_b tk2_789
          have btk2_789 : (0 : Int) ≤ tk2_789 ∧ tk2_789 ≤ 5 := e793 ▸ hW790.1 11
          refine .inl ⟨rfl, ?_⟩
          refine jx_ld (pc' := 115) (l' := L785) (st' := [.ref 66]) rfl (jl_aloadn gL785_0) ?_
          refine jx_vr (pc' := 118) (as := []) (st := []) rfl rfl rfl rfl ⟨rfl, rfl, Nat.le_of_ble_eq_true rfl⟩ rfl rfl (c_endLine (dd := d) (hd := by omega) (hW := hW790)  (ln := ln) (e_ln := show G786 9 = ln from ((hF791.1 9 rfl).trans ((hF775.1 9 rfl).trans (e_ln)))) (li := li) (e_li := show G786 3 = li from ((hF791.1 3 rfl).trans ((hF775.1 3 rfl).trans (e_li)))) (fk := fk) (e_fk := show G786 16 = fk from ((hF791.1 16 rfl).trans ((hF775.1 16 rfl).trans (e_fk)))) (tk0 := tk2_789) (e_tk0 := show G786 11 = tk2_789 from (e793))    (p_0 := by omega)) (fun o V' hq => ?_)
          obtain ⟨G803, A804, ln2_805, fk2_806, rfl, rfl, hW807, hF808, e809, e810, q811⟩ := hq
          have hF812 := Fr_tr hF798 hF808 (Fr_sub (by decide)) (Fr_sub (by decide))
          have hP813 := Pf_f hP799 hF808 (by decide)
          have hS814 := Fx_f hS800 hF808 (by decide)
          have hV815 := Fx_f hV801 hF808 (by decide)
          have sf816 : ND A804 (nd) (21) (0) (0) (0) (0) (0) (0) := ND_ag (by omega) (Ag_fr hF808 (by decide)) sf802
          have bln2_805 : (0 : Int) ≤ ln2_805 ∧ ln2_805 ≤ 3000 := e809 ▸ hW807.1 9
          have bfk2_806 : (0 : Int) ≤ fk2_806 ∧ fk2_806 ≤ 6 := e810 ▸ hW807.1 16
          refine .inl ⟨rfl, ?_⟩
          rcases q811 with ⟨a817, a818, a819, a820, a821⟩ | ⟨a822, a823⟩
          · have _q : True := trivial
            have b824 : (0 : Int) ≤ A 3 (ln2_805).toNat ∧ A 3 (ln2_805).toNat ≤ 3000 := hW.2 3 _
            have lt825 : ln2_805 < li → le < A 3 (ln2_805).toNat := fun hh => LT_nx (LT_ext (((hF808.1 3 rfl).trans ((hF791.1 3 rfl).trans (hF775.1 3 rfl)))) (((hF808.2 3 rfl).trans ((hF791.2 3 rfl).trans (hF775.2 3 rfl)))) (((hF808.2 4 rfl).trans ((hF791.2 4 rfl).trans (hF775.2 4 rfl)))) i_LT) (show G803 3 = li from ((hF808.1 3 rfl).trans ((hF791.1 3 rfl).trans ((hF775.1 3 rfl).trans (e_li))))) (show A804 4 (ln).toNat = le from (congrFun ((hF808.2 4 rfl).trans ((hF791.2 4 rfl).trans (hF775.2 4 rfl))) _).trans (e_le)) (show A804 3 (ln2_805).toNat = A 3 (ln2_805).toNat from (congrFun ((hF808.2 3 rfl).trans ((hF791.2 3 rfl).trans (hF775.2 3 rfl))) _)) (show ln2_805 = ln + 1 by omega) (by omega) hh
            refine jx_ld (pc' := 119) (l' := L785) (st' := [.int (i32 (nd))]) rfl (jl_iloadn gL785_2) ?_
            refine jx_rt (v := some (.int (i32 (nd)))) rfl rfl rfl rfl rfl rfl ?_
            exact ⟨_, _, _, ln2_805, at2_788, fk2_806, nd2_773, sy, na, vi, A 3 (ln2_805).toNat, rfl, rfl, hW807, hF812, hP813, hS814, hV815, by omega, (e809), ((hF808.1 10 rfl).trans (e792)), (e810), ((hF808.1 31 rfl).trans ((hF791.1 31 rfl).trans (e777))), ((hF808.1 19 rfl).trans ((hF791.1 19 rfl).trans ((hF775.1 19 rfl).trans (e_sy)))), ((hF808.1 28 rfl).trans ((hF791.1 28 rfl).trans ((hF775.1 28 rfl).trans (e_na)))), ((hF808.1 29 rfl).trans ((hF791.1 29 rfl).trans ((hF775.1 29 rfl).trans (e_vi)))), (congrFun ((hF808.2 3 rfl).trans ((hF791.2 3 rfl).trans (hF775.2 3 rfl))) _), by omega, by omega, by omega, by omega, by omega, by omega, by omega, by omega, by omega, by omega, by first | exact Or.inr ((⟨by omega, by omega, by omega, by omega, by omega, by omega, by omega, (wS_skip sf816 (by omega) (by omega)), (NX_nd sf816)⟩))⟩
          · have _q : True := trivial
            refine jx_ld (pc' := 119) (l' := L785) (st' := [.int (i32 (nd))]) rfl (jl_iloadn gL785_2) ?_
            refine jx_rt (v := some (.int (i32 (nd)))) rfl rfl rfl rfl rfl rfl ?_
            exact ⟨_, _, _, ln2_805, at2_788, fk2_806, nd2_773, sy, na, vi, A 3 (ln2_805).toNat, rfl, rfl, hW807, hF812, hP813, hS814, hV815, by omega, (e809), ((hF808.1 10 rfl).trans (e792)), (e810), ((hF808.1 31 rfl).trans ((hF791.1 31 rfl).trans (e777))), ((hF808.1 19 rfl).trans ((hF791.1 19 rfl).trans ((hF775.1 19 rfl).trans (e_sy)))), ((hF808.1 28 rfl).trans ((hF791.1 28 rfl).trans ((hF775.1 28 rfl).trans (e_na)))), ((hF808.1 29 rfl).trans ((hF791.1 29 rfl).trans ((hF775.1 29 rfl).trans (e_vi)))), (congrFun ((hF808.2 3 rfl).trans ((hF791.2 3 rfl).trans (hF775.2 3 rfl))) _), by omega, by omega, by omega, by omega, by omega, by omega, by omega, by omega, by omega, by omega, by first | exact Or.inl (⟨by omega, by omega⟩)⟩
        · have _q := h770
          refine jx_ar (pc' := 97) (st' := [.int (i32 (20)), .ref 66]) rfl rfl rfl rfl ?_
          refine jx_go (tg := 102) rfl rfl ?_
          refine jx_ar (pc' := 103) (st' := [.int (i32 (0)), .int (i32 (20)), .ref 66]) rfl rfl rfl rfl ?_
          refine jx_ar (pc' := 104) (st' := [.int (i32 (0)), .int (i32 (0)), .int (i32 (20)), .ref 66]) rfl rfl rfl rfl ?_
          refine jx_ar (pc' := 105) (st' := [.int (i32 (0)), .int (i32 (0)), .int (i32 (0)), .int (i32 (20)), .ref 66]) rfl rfl rfl rfl ?_
          refine jx_ar (pc' := 106) (st' := [.int (i32 (0)), .int (i32 (0)), .int (i32 (0)), .int (i32 (0)), .int (i32 (20)), .ref 66]) rfl rfl rfl rfl ?_
          refine jx_vr (pc' := 109) (as := [.int (i32 (20)), .int (i32 (0)), .int (i32 (0)), .int (i32 (0)), .int (i32 (0))]) (st := []) rfl rfl rfl rfl ⟨rfl, rfl, Nat.le_of_ble_eq_true rfl⟩ rfl rfl (c_node (dd := d) (hd := by omega) (hW := hW) (kind := 20) (a := 0) (b := 0) (c := 0) (e := 0) (nd := nd) (e_nd := show G 31 = nd from (e_nd))  (h_kind := ⟨(by decide), (by decide)⟩) (h_a := ⟨(by decide), (by decide)⟩) (h_b := ⟨(by decide), (by decide)⟩) (h_c := ⟨(by decide), (by decide)⟩) (h_e := ⟨(by decide), (by decide)⟩)  (p_0 := by omega) (p_1 := by omega)) (fun o V' hq => ?_)
          obtain ⟨G826, A827, nd2_828, rfl, rfl, hW829, hF830, hQ831, e832, p833, p834, -⟩ := hq
          have hF836 := Fr_tr hF0 hF830 (Fr_sub (by decide)) (Fr_sub (by decide))
          have hP837 := Pf_tr hP0 hQ831 (by omega)
          have hS838 := Fx_f hS0 hF830 (by decide)
          have hV839 := Fx_f hV0 hF830 (by decide)
          have bnd2_828 : (0 : Int) ≤ nd2_828 ∧ nd2_828 ≤ 6999 := e832 ▸ hW829.1 31
          refine .inr ⟨_, rfl, ?_⟩
          refine jx_ld (pc' := 110) (l' := jSto1 L7 2 (.int (i32 (nd)))) (st' := []) rfl rfl ?_
          obtain ⟨L840, eL840⟩ : ∃ q, q = jSto1 L7 2 (.int (i32 (nd))) := ⟨_, rfl⟩
          rw [← eL840]
          have gL840_0 : jGet L840 0 = some (.ref 66) := eL840 ▸ jg_ne (by decide) gL7_0 rfl
          have gL840_1 : jGet L840 1 = some (.int (i32 (lv))) := eL840 ▸ jg_ne (by decide) gL7_1 rfl
          have gL840_3 : jGet L840 3 = some (.int (i32 (G 13))) := eL840 ▸ jg_ne (by decide) gL7_3 rfl
          have gL840_2 : jGet L840 2 = some (.int (i32 (nd))) := eL840 ▸ jg_eq
          refine jx_ld (pc' := 111) (l' := L840) (st' := [.ref 66]) rfl (jl_aloadn gL840_0) ?_
          refine jx_vr (pc' := 114) (as := []) (st := []) rfl rfl rfl rfl ⟨rfl, rfl, Nat.le_of_ble_eq_true rfl⟩ rfl rfl (c_next (dd := d) (hd := by omega) (hW := hW829)  (ln := ln) (e_ln := show G826 9 = ln from ((hF830.1 9 rfl).trans (e_ln))) (le := le) (e_le := show A827 4 (ln).toNat = le from (congrFun (hF830.2 4 rfl) _).trans (e_le)) (at0 := at0) (e_at0 := show G826 10 = at0 from ((hF830.1 10 rfl).trans (e_at0)))    (p_0 := by omega)) (fun o V' hq => ?_)
          obtain ⟨G841, A842, at2_843, tk2_844, rfl, rfl, hW845, hF846, e847, e848, p849, p850, p851, -⟩ := hq
          have hF853 := Fr_tr hF836 hF846 (Fr_sub (by decide)) (Fr_sub (by decide))
          have hP854 := Pf_f hP837 hF846 (by decide)
          have hS855 := Fx_f hS838 hF846 (by decide)
          have hV856 := Fx_f hV839 hF846 (by decide)
          have sf857 : ND A842 (nd) (20) (0) (0) (0) (0) (0) (0) := ND_ag (by omega) (Ag_fr hF846 (by decide)) p834
          have bat2_843 : (0 : Int) ≤ at2_843 ∧ at2_843 ≤ 3002 := e847 ▸ hW845.1 10
          have ztk2_844 := tz_b tk2_844
          have btk2_844 : (0 : Int) ≤ tk2_844 ∧ tk2_844 ≤ 5 := e848 ▸ hW845.1 11
          refine .inl ⟨rfl, ?_⟩
          refine jx_ld (pc' := 115) (l' := L840) (st' := [.ref 66]) rfl (jl_aloadn gL840_0) ?_
          refine jx_vr (pc' := 118) (as := []) (st := []) rfl rfl rfl rfl ⟨rfl, rfl, Nat.le_of_ble_eq_true rfl⟩ rfl rfl (c_endLine (dd := d) (hd := by omega) (hW := hW845)  (ln := ln) (e_ln := show G841 9 = ln from ((hF846.1 9 rfl).trans ((hF830.1 9 rfl).trans (e_ln)))) (li := li) (e_li := show G841 3 = li from ((hF846.1 3 rfl).trans ((hF830.1 3 rfl).trans (e_li)))) (fk := fk) (e_fk := show G841 16 = fk from ((hF846.1 16 rfl).trans ((hF830.1 16 rfl).trans (e_fk)))) (tk0 := tk2_844) (e_tk0 := show G841 11 = tk2_844 from (e848))    (p_0 := by omega)) (fun o V' hq => ?_)
          obtain ⟨G858, A859, ln2_860, fk2_861, rfl, rfl, hW862, hF863, e864, e865, q866⟩ := hq
          have hF867 := Fr_tr hF853 hF863 (Fr_sub (by decide)) (Fr_sub (by decide))
          have hP868 := Pf_f hP854 hF863 (by decide)
          have hS869 := Fx_f hS855 hF863 (by decide)
          have hV870 := Fx_f hV856 hF863 (by decide)
          have sf871 : ND A859 (nd) (20) (0) (0) (0) (0) (0) (0) := ND_ag (by omega) (Ag_fr hF863 (by decide)) sf857
          have bln2_860 : (0 : Int) ≤ ln2_860 ∧ ln2_860 ≤ 3000 := e864 ▸ hW862.1 9
          have bfk2_861 : (0 : Int) ≤ fk2_861 ∧ fk2_861 ≤ 6 := e865 ▸ hW862.1 16
          refine .inl ⟨rfl, ?_⟩
          rcases q866 with ⟨a872, a873, a874, a875, a876⟩ | ⟨a877, a878⟩
          · have _q : True := trivial
            have b879 : (0 : Int) ≤ A 3 (ln2_860).toNat ∧ A 3 (ln2_860).toNat ≤ 3000 := hW.2 3 _
            have lt880 : ln2_860 < li → le < A 3 (ln2_860).toNat := fun hh => LT_nx (LT_ext (((hF863.1 3 rfl).trans ((hF846.1 3 rfl).trans (hF830.1 3 rfl)))) (((hF863.2 3 rfl).trans ((hF846.2 3 rfl).trans (hF830.2 3 rfl)))) (((hF863.2 4 rfl).trans ((hF846.2 4 rfl).trans (hF830.2 4 rfl)))) i_LT) (show G858 3 = li from ((hF863.1 3 rfl).trans ((hF846.1 3 rfl).trans ((hF830.1 3 rfl).trans (e_li))))) (show A859 4 (ln).toNat = le from (congrFun ((hF863.2 4 rfl).trans ((hF846.2 4 rfl).trans (hF830.2 4 rfl))) _).trans (e_le)) (show A859 3 (ln2_860).toNat = A 3 (ln2_860).toNat from (congrFun ((hF863.2 3 rfl).trans ((hF846.2 3 rfl).trans (hF830.2 3 rfl))) _)) (show ln2_860 = ln + 1 by omega) (by omega) hh
            refine jx_ld (pc' := 119) (l' := L840) (st' := [.int (i32 (nd))]) rfl (jl_iloadn gL840_2) ?_
            refine jx_rt (v := some (.int (i32 (nd)))) rfl rfl rfl rfl rfl rfl ?_
            exact ⟨_, _, _, ln2_860, at2_843, fk2_861, nd2_828, sy, na, vi, A 3 (ln2_860).toNat, rfl, rfl, hW862, hF867, hP868, hS869, hV870, by omega, (e864), ((hF863.1 10 rfl).trans (e847)), (e865), ((hF863.1 31 rfl).trans ((hF846.1 31 rfl).trans (e832))), ((hF863.1 19 rfl).trans ((hF846.1 19 rfl).trans ((hF830.1 19 rfl).trans (e_sy)))), ((hF863.1 28 rfl).trans ((hF846.1 28 rfl).trans ((hF830.1 28 rfl).trans (e_na)))), ((hF863.1 29 rfl).trans ((hF846.1 29 rfl).trans ((hF830.1 29 rfl).trans (e_vi)))), (congrFun ((hF863.2 3 rfl).trans ((hF846.2 3 rfl).trans (hF830.2 3 rfl))) _), by omega, by omega, by omega, by omega, by omega, by omega, by omega, by omega, by omega, by omega, by first | exact Or.inr ((⟨by omega, by omega, by omega, by omega, by omega, by omega, by omega, (wS_skip sf871 (by omega) (by omega)), (NX_nd sf871)⟩))⟩
          · have _q : True := trivial
            refine jx_ld (pc' := 119) (l' := L840) (st' := [.int (i32 (nd))]) rfl (jl_iloadn gL840_2) ?_
            refine jx_rt (v := some (.int (i32 (nd)))) rfl rfl rfl rfl rfl rfl ?_
            exact ⟨_, _, _, ln2_860, at2_843, fk2_861, nd2_828, sy, na, vi, A 3 (ln2_860).toNat, rfl, rfl, hW862, hF867, hP868, hS869, hV870, by omega, (e864), ((hF863.1 10 rfl).trans (e847)), (e865), ((hF863.1 31 rfl).trans ((hF846.1 31 rfl).trans (e832))), ((hF863.1 19 rfl).trans ((hF846.1 19 rfl).trans ((hF830.1 19 rfl).trans (e_sy)))), ((hF863.1 28 rfl).trans ((hF846.1 28 rfl).trans ((hF830.1 28 rfl).trans (e_na)))), ((hF863.1 29 rfl).trans ((hF846.1 29 rfl).trans ((hF830.1 29 rfl).trans (e_vi)))), (congrFun ((hF863.2 3 rfl).trans ((hF846.2 3 rfl).trans (hF830.2 3 rfl))) _), by omega, by omega, by omega, by omega, by omega, by omega, by omega, by omega, by omega, by omega, by first | exact Or.inl (⟨by omega, by omega⟩)⟩
      · refine jx_swt (tg := 259) (by omega) (by omega) rfl h8 rfl ?_
        refine jx_ld (pc' := 260) (l' := L7) (st' := [.ref 66]) rfl (jl_aloadn gL7_0) ?_
        refine jx_ar (pc' := 261) (st' := [.int (i32 (1)), .ref 66]) rfl rfl rfl rfl ?_
        refine jx_ld (pc' := 262) (l' := L7) (st' := [.ref 66, .int (i32 (1)), .ref 66]) rfl (jl_aloadn gL7_0) ?_
        have b881 : (-3000 : Int) ≤ G 12 ∧ G 12 ≤ 3002 := hW.1 12
        refine jr_get (pc' := 265) (i := 12) (v := .int (i32 (G 12))) rfl rfl (by decide) rfl rfl ?_
        refine jx_vr (pc' := 268) (as := [.int (i32 (1)), .int (i32 (G 12))]) (st := []) rfl rfl rfl rfl ⟨rfl, rfl, Nat.le_of_ble_eq_true rfl⟩ rfl rfl (c_fail (dd := d) (hd := by omega) (hW := hW) (kind := 1) (place := G 12) (fk := fk) (e_fk := show G 16 = fk from (e_fk))  (h_kind := ⟨(by decide), (by decide)⟩) (h_place := ⟨(Int.le_trans (by decide : (-2147483648 : Int) ≤ -3000) b881.1), (Int.le_trans b881.2 (by decide : (3002 : Int) ≤ 2147483647))⟩)  (p_0 := by omega) (p_1 := by omega)) (fun o V' hq => ?_)
        obtain ⟨G882, A883, fk2_884, rfl, rfl, hW885, hF886, e887, p888, -⟩ := hq
        have hF890 := Fr_tr hF0 hF886 (Fr_sub (by decide)) (Fr_sub (by decide))
        have hP891 := Pf_f hP0 hF886 (by decide)
        have hS892 := Fx_f hS0 hF886 (by decide)
        have hV893 := Fx_f hV0 hF886 (by decide)
        have bfk2_884 : (0 : Int) ≤ fk2_884 ∧ fk2_884 ≤ 6 := e887 ▸ hW885.1 16
        refine .inl ⟨rfl, ?_⟩
        refine jx_ar (pc' := 269) (st' := [.int (i32 (0))]) rfl rfl rfl rfl ?_
        refine jx_rt (v := some (.int (i32 (0)))) rfl rfl rfl rfl rfl rfl ?_
        exact ⟨_, _, _, ln, at0, fk2_884, nd, sy, na, vi, A 3 (ln).toNat, rfl, rfl, hW885, hF890, hP891, hS892, hV893, by omega, ((hF886.1 9 rfl).trans (e_ln)), ((hF886.1 10 rfl).trans (e_at0)), (e887), ((hF886.1 31 rfl).trans (e_nd)), ((hF886.1 19 rfl).trans (e_sy)), ((hF886.1 28 rfl).trans (e_na)), ((hF886.1 29 rfl).trans (e_vi)), (congrFun (hF886.2 3 rfl) _), by omega, by omega, by omega, by omega, by omega, by omega, by omega, by omega, by omega, by omega, by first | exact Or.inl (⟨by omega, by omega⟩)⟩
    · have _q := h5
      refine jx_ld (pc' := 24) (l' := L1) (st' := [.ref 66]) rfl (jl_aloadn gL1_0) ?_
      refine jx_ar (pc' := 25) (st' := [.int (i32 (1)), .ref 66]) rfl rfl rfl rfl ?_
      refine jx_ld (pc' := 26) (l' := L1) (st' := [.ref 66, .int (i32 (1)), .ref 66]) rfl (jl_aloadn gL1_0) ?_
      have b894 : (-3000 : Int) ≤ G 12 ∧ G 12 ≤ 3002 := hW.1 12
      refine jr_get (pc' := 29) (i := 12) (v := .int (i32 (G 12))) rfl rfl (by decide) rfl rfl ?_
      refine jx_vr (pc' := 32) (as := [.int (i32 (1)), .int (i32 (G 12))]) (st := []) rfl rfl rfl rfl ⟨rfl, rfl, Nat.le_of_ble_eq_true rfl⟩ rfl rfl (c_fail (dd := d) (hd := by omega) (hW := hW) (kind := 1) (place := G 12) (fk := fk) (e_fk := show G 16 = fk from (e_fk))  (h_kind := ⟨(by decide), (by decide)⟩) (h_place := ⟨(Int.le_trans (by decide : (-2147483648 : Int) ≤ -3000) b894.1), (Int.le_trans b894.2 (by decide : (3002 : Int) ≤ 2147483647))⟩)  (p_0 := by omega) (p_1 := by omega)) (fun o V' hq => ?_)
      obtain ⟨G895, A896, fk2_897, rfl, rfl, hW898, hF899, e900, p901, -⟩ := hq
      have hF903 := Fr_tr hF0 hF899 (Fr_sub (by decide)) (Fr_sub (by decide))
      have hP904 := Pf_f hP0 hF899 (by decide)
      have hS905 := Fx_f hS0 hF899 (by decide)
      have hV906 := Fx_f hV0 hF899 (by decide)
      have bfk2_897 : (0 : Int) ≤ fk2_897 ∧ fk2_897 ≤ 6 := e900 ▸ hW898.1 16
      refine .inl ⟨rfl, ?_⟩
      refine jx_ar (pc' := 33) (st' := [.int (i32 (0))]) rfl rfl rfl rfl ?_
      refine jx_rt (v := some (.int (i32 (0)))) rfl rfl rfl rfl rfl rfl ?_
      exact ⟨_, _, _, ln, at0, fk2_897, nd, sy, na, vi, A 3 (ln).toNat, rfl, rfl, hW898, hF903, hP904, hS905, hV906, by omega, ((hF899.1 9 rfl).trans (e_ln)), ((hF899.1 10 rfl).trans (e_at0)), (e900), ((hF899.1 31 rfl).trans (e_nd)), ((hF899.1 19 rfl).trans (e_sy)), ((hF899.1 28 rfl).trans (e_na)), ((hF899.1 29 rfl).trans (e_vi)), (congrFun (hF899.2 3 rfl) _), by omega, by omega, by omega, by omega, by omega, by omega, by omega, by omega, by omega, by omega, by first | exact Or.inl (⟨by omega, by omega⟩)⟩
  · have _q := h3
    refine jx_ld (pc' := 11) (l' := L1) (st' := [.ref 66]) rfl (jl_aloadn gL1_0) ?_
    refine jx_vr (pc' := 14) (as := []) (st := []) rfl rfl rfl rfl ⟨rfl, rfl, Nat.le_of_ble_eq_true rfl⟩ rfl rfl (c_readNamed (dd := d) (hd := by omega) (hW := hW)  (ln := ln) (e_ln := show G 9 = ln from (e_ln)) (le := le) (e_le := show A 4 (ln).toNat = le from (e_le)) (at0 := at0) (e_at0 := show G 10 = at0 from (e_at0)) (fk := fk) (e_fk := show G 16 = fk from (e_fk)) (op0 := op0) (e_op0 := show G 15 = op0 from (e_op0)) (nd := nd) (e_nd := show G 31 = nd from (e_nd)) (tk0 := tk0) (e_tk0 := show G 11 = tk0 from (e_tk0)) (li := li) (e_li := show G 3 = li from (e_li)) (i_SV := (SV_fx i_SV e_vi (show G 29 = vi from (e_vi)) (by omega) hV0)) (i_PQ := (PQ_fx i_PQ hS0 (by omega) (hF0.2 29 rfl) (hF0.2 30 rfl)))   (p_0 := by omega) (p_1 := by omega) (p_2 := by omega) (p_3 := by omega) (p_4 := by omega) (p_5 := by omega)) (fun o V' hq => ?_)
    obtain ⟨G907, A908, r909, at2_910, fk2_911, nd2_912, ln2_913, rfl, rfl, hW914, hF915, hQ916, b917, e918, e919, e920, e921, p922, p923, p924, p925, p926, q927⟩ := hq
    have hF928 := Fr_tr hF0 hF915 (Fr_sub (by decide)) (Fr_sub (by decide))
    have hP929 := Pf_tr hP0 hQ916 (by omega)
    have hS930 := Fx_f hS0 hF915 (by decide)
    have hV931 := Fx_f hV0 hF915 (by decide)
    have bat2_910 : (0 : Int) ≤ at2_910 ∧ at2_910 ≤ 3002 := e918 ▸ hW914.1 10
    have bfk2_911 : (0 : Int) ≤ fk2_911 ∧ fk2_911 ≤ 6 := e919 ▸ hW914.1 16
    have bnd2_912 : (0 : Int) ≤ nd2_912 ∧ nd2_912 ≤ 6999 := e920 ▸ hW914.1 31
    have bln2_913 : (0 : Int) ≤ ln2_913 ∧ ln2_913 ≤ 3000 := e921 ▸ hW914.1 9
    refine .inr ⟨_, rfl, ?_⟩
    rcases q927 with ⟨a932, a933, a934⟩ | ⟨a935, a936, a937, a938, a939, a940, a941⟩
    · have _q : True := trivial
      refine jx_rt (v := some (.int (i32 (r909)))) rfl rfl rfl rfl rfl rfl ?_
      exact ⟨_, _, _, ln2_913, at2_910, fk2_911, nd2_912, sy, na, vi, A 3 (ln2_913).toNat, rfl, rfl, hW914, hF928, hP929, hS930, hV931, by omega, (e921), (e918), (e919), (e920), ((hF915.1 19 rfl).trans (e_sy)), ((hF915.1 28 rfl).trans (e_na)), ((hF915.1 29 rfl).trans (e_vi)), (congrFun (hF915.2 3 rfl) _), by omega, by omega, by omega, by omega, by omega, by omega, by omega, by omega, by omega, by omega, by first | exact Or.inl (⟨by omega, by omega⟩)⟩
    · have _q : True := trivial
      have b942 : (0 : Int) ≤ A 3 (ln2_913).toNat ∧ A 3 (ln2_913).toNat ≤ 3000 := hW.2 3 _
      have lt943 : ln2_913 < li → le < A 3 (ln2_913).toNat := fun hh => LT_nx (LT_ext ((hF915.1 3 rfl)) ((hF915.2 3 rfl)) ((hF915.2 4 rfl)) i_LT) (show G907 3 = li from ((hF915.1 3 rfl).trans (e_li))) (show A908 4 (ln).toNat = le from (congrFun (hF915.2 4 rfl) _).trans (e_le)) (show A908 3 (ln2_913).toNat = A 3 (ln2_913).toNat from (congrFun (hF915.2 3 rfl) _)) (show ln2_913 = ln + 1 by omega) (by omega) hh
      refine jx_rt (v := some (.int (i32 (r909)))) rfl rfl rfl rfl rfl rfl ?_
      exact ⟨_, _, _, ln2_913, at2_910, fk2_911, nd2_912, sy, na, vi, A 3 (ln2_913).toNat, rfl, rfl, hW914, hF928, hP929, hS930, hV931, by omega, (e921), (e918), (e919), (e920), ((hF915.1 19 rfl).trans (e_sy)), ((hF915.1 28 rfl).trans (e_na)), ((hF915.1 29 rfl).trans (e_vi)), (congrFun (hF915.2 3 rfl) _), by omega, by omega, by omega, by omega, by omega, by omega, by omega, by omega, by omega, by omega, by first | exact Or.inr ((⟨by omega, by omega, by omega, by omega, by omega, by omega, by omega, (wS_leaf (wL_eq a940 (by omega) (by omega)) (by omega) (by omega)), a941⟩))⟩
