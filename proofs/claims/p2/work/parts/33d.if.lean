set_option maxRecDepth 20000 in
set_option maxHeartbeats 4000000 in
theorem c_readIf_at_21 {X : jX} {k : Nat} (hP : RP X k) {d : Nat} {Vs : Nat → Prop} {sb pb : Int} (hvb : VB Vs sb) {c0 c1 : jC} {G : Nat → Int} {A : Nat → Nat → Int} {T : jH} {lv : Int} {ln li at0 fk nd sy na vi le op0 tk0 : Int} (hd : 8 * k + 82 ≤ d + 1) (hW : Wk G A) (e_ln : G 9 = ln) (e_li : G 3 = li) (e_at0 : G 10 = at0) (e_fk : G 16 = fk) (e_nd : G 31 = nd) (e_sy : G 19 = sy) (e_na : G 28 = na) (e_vi : G 29 = vi) (e_le : A 4 (ln).toNat = le) (e_op0 : G 15 = op0) (e_tk0 : G 11 = tk0) (i_LT : LT G A) (i_SV : SV Vs sb G A) (i_PQ : PQ Vs sb pb G A) (h_lv : (-2147483648 : Int) ≤ lv ∧ lv ≤ 2147483647) (p_0 : 0 ≤ lv ∧ lv ≤ 15) (p_1 : 18 - lv ≤ ((k + 1 : Nat) : Int)) (p_2 : fk = 0) (p_3 : ln < li) (p_4 : at0 ≤ le) (p_5 : op0 = 0) (p_6 : nd ≤ 2 * at0 - tz tk0 + 30) (p_7 : sy ≤ na + 2) (p_8 : vi ≤ sy) (p_9 : sb = sy) (p_10 : 1 ≤ tk0) : ∀ (m : Nat) (L : jL) (Gx : Nat → Int) (Ax : Nat → Nat → Int) (n last ln1 at1 fk1 nd1 sy1 na1 vi1 lf1 : Int), (li - ln1).toNat = m → jGet L 0 = some (.ref 66) → jGet L 1 = some (.int (i32 (lv))) → jGet L 2 = some (.int (i32 n)) → jGet L 3 = some (.int (i32 last)) → Wk Gx Ax → Fr [9, 10, 11, 12, 13, 14, 15, 16, 17, 18, 19, 28, 29, 31] [6, 7, 8, 9, 10, 11, 12, 14, 15, 16, 17, 18, 19, 20, 21, 22, 23, 24, 28] G A Gx Ax → Pf nd A Ax → Fx sr (sy) A Ax → Fx [14] (vi) A Ax → Gx 9 = ln1 → Gx 10 = at1 → Gx 16 = fk1 → Gx 31 = nd1 → Gx 19 = sy1 → Gx 28 = na1 → Gx 29 = vi1 → Ax 3 (ln1).toNat = lf1 → ((-2147483648 : Int) ≤ n ∧ n ≤ 2147483647) → ((-2147483648 : Int) ≤ last ∧ last ≤ 2147483647) → (fk1 = 0) → (at0 ≤ at1) → (nd ≤ n ∧ n ≤ 6998 ∧ n < nd1) → (sy ≤ sy1) → (sy1 ≤ na1 + 2) → (vi1 = vi) → (ln < ln1) → (ln1 ≤ li) → (nd1 - nd ≤ 2 * at1 - (2 * at0 - tz tk0)) → (at1 < lf1 ∨ li ≤ ln1) → (n = nd) → (0 ≤ last ∧ last ≤ 6998) → (last = 0 ∨ n < last) → (last < nd1) → (ND Ax (n) (30) (0) (0) (0) (0) (Ax 21 (n).toNat) (0)) → (CI 1 Ax (sy1) pb (k) (Vs) (n) (last) (n + 1) (nd1) (sy) (sy1)) → wj X d jm301 (21, L, [], rV c0 c1 Gx Ax T) (fun o V' => ∃ (G' : Nat → Int) (A' : Nat → Nat → Int) (r : Int) (ln2 : Int) (at2 : Int) (fk2 : Int) (nd2 : Int) (sy2 : Int) (na2 : Int) (vi2 : Int) (lf2 : Int), V' = rV c0 c1 G' A' T ∧ o = .inl (some (.int (i32 r))) ∧ Wk G' A' ∧ Fr [9, 10, 11, 12, 13, 14, 15, 16, 17, 18, 19, 28, 29, 31] [6, 7, 8, 9, 10, 11, 12, 14, 15, 16, 17, 18, 19, 20, 21, 22, 23, 24, 28] G A G' A' ∧ Pf nd A A' ∧ Fx sr (sy) A A' ∧ Fx [14] (vi) A A' ∧ ((-2147483648 : Int) ≤ r ∧ r ≤ 2147483647) ∧ G' 9 = ln2 ∧ G' 10 = at2 ∧ G' 16 = fk2 ∧ G' 31 = nd2 ∧ G' 19 = sy2 ∧ G' 28 = na2 ∧ G' 29 = vi2 ∧ A' 3 (ln2).toNat = lf2 ∧ (at0 ≤ at2) ∧ (nd ≤ nd2) ∧ (sy ≤ sy2) ∧ (sy2 ≤ na2 + 2) ∧ (vi ≤ vi2) ∧ (vi2 ≤ vi + 1) ∧ (0 ≤ r) ∧ (r ≤ 6999) ∧ (ln ≤ ln2) ∧ (ln2 ≤ li) ∧ (((1 ≤ fk2) ∧ (nd2 - nd ≤ 2 * at2 - (2 * at0 - tz tk0) + 14)) ∨ ((fk2 = 0) ∧ (vi2 = vi) ∧ (ln < ln2) ∧ (nd2 - nd ≤ 2 * at2 - (2 * at0 - tz tk0)) ∧ (at2 < lf2 ∨ li ≤ ln2) ∧ (nd ≤ r) ∧ (r < nd2) ∧ (wSt A' (sy2) pb (wP A' (sy2) pb (k)) (Vs) (r) (nd) (nd2) (sy) (sy2)) ∧ (NX A' (r))))) := by
  have hF0 : Fr [9, 10, 11, 12, 13, 14, 15, 16, 17, 18, 19, 28, 29, 31] [6, 7, 8, 9, 10, 11, 12, 14, 15, 16, 17, 18, 19, 20, 21, 22, 23, 24, 28] G A G A := Fr_rf
  have hP0 : Pf nd A A := Pf_rf
  have hS0 : Fx sr (sy) A A := Fx_rf
  have hV0 : Fx [14] (vi) A A := Fx_rf
  have b_ln : (0 : Int) ≤ ln ∧ ln ≤ 3000 := e_ln ▸ hW.1 9
  have b_li : (0 : Int) ≤ li ∧ li ≤ 3000 := e_li ▸ hW.1 3
  have b_at0 : (0 : Int) ≤ at0 ∧ at0 ≤ 3002 := e_at0 ▸ hW.1 10
  have b_fk : (0 : Int) ≤ fk ∧ fk ≤ 6 := e_fk ▸ hW.1 16
  have b_nd : (0 : Int) ≤ nd ∧ nd ≤ 6999 := e_nd ▸ hW.1 31
  have b_sy : (0 : Int) ≤ sy ∧ sy ≤ 202 := e_sy ▸ hW.1 19
  have b_na : (0 : Int) ≤ na ∧ na ≤ 200 := e_na ▸ hW.1 28
  have b_vi : (0 : Int) ≤ vi ∧ vi ≤ 202 := e_vi ▸ hW.1 29
  have b_le : (0 : Int) ≤ le ∧ le ≤ 3000 := e_le ▸ hW.2 4 _
  have b_op0 : (-2147483648 : Int) ≤ op0 ∧ op0 ≤ 2147483647 := e_op0 ▸ hW.1 15
  have z_tk0 := tz_f tk0
  have b_tk0 : (0 : Int) ≤ tk0 ∧ tk0 ≤ 5 := e_tk0 ▸ hW.1 11
  intro m
  induction m using Nat.strongRecOn with
  | ind m ih21 =>
    intro L Gx Ax n last ln1 at1 fk1 nd1 sy1 na1 vi1 lf1 hm gL_0 gL_1 gL_2 gL_3 hWx hFx hPx hSx hVx ex_ln1 ex_at1 ex_fk1 ex_nd1 ex_sy1 ex_na1 ex_vi1 ex_lf1 rx_n rx_last iv_0 iv_1 iv_2 iv_3 iv_4 iv_5 iv_6 iv_7 iv_8 iv_9 iv_10 iv_11 iv_12 iv_13 iv_14 iv_15
    have b_ln1 : (0 : Int) ≤ ln1 ∧ ln1 ≤ 3000 := ex_ln1 ▸ hWx.1 9
    have b_at1 : (0 : Int) ≤ at1 ∧ at1 ≤ 3002 := ex_at1 ▸ hWx.1 10
    have b_fk1 : (0 : Int) ≤ fk1 ∧ fk1 ≤ 6 := ex_fk1 ▸ hWx.1 16
    have b_nd1 : (0 : Int) ≤ nd1 ∧ nd1 ≤ 6999 := ex_nd1 ▸ hWx.1 31
    have b_sy1 : (0 : Int) ≤ sy1 ∧ sy1 ≤ 202 := ex_sy1 ▸ hWx.1 19
    have b_na1 : (0 : Int) ≤ na1 ∧ na1 ≤ 200 := ex_na1 ▸ hWx.1 28
    have b_vi1 : (0 : Int) ≤ vi1 ∧ vi1 ≤ 202 := ex_vi1 ▸ hWx.1 29
    refine jx_ld (pc' := 22) (l' := L) (st' := [.ref 66]) rfl (jl_aloadn gL_0) ?_
    refine jx_ld (pc' := 23) (l' := L) (st' := [.int (i32 (lv)), .ref 66]) rfl (jl_iloadn gL_1) ?_
    have b1 : (-1 : Int) ≤ A 5 (ln1).toNat ∧ A 5 (ln1).toNat ≤ 15 := hW.2 5 _
    refine jx_vr (pc' := 26) (as := [.int (i32 (lv))]) (st := []) rfl rfl rfl rfl ⟨rfl, rfl, Nat.le_of_ble_eq_true rfl⟩ rfl rfl (c_isBelow (dd := d) (hd := by omega) (hW := hWx) (lv := lv) (ln := ln1) (e_ln := show Gx 9 = ln1 from (ex_ln1)) (li := li) (e_li := show Gx 3 = li from ((hFx.1 3 rfl).trans (e_li))) (fk := fk1) (e_fk := show Gx 16 = fk1 from (ex_fk1)) (ll := A 5 (ln1).toNat) (e_ll := show Ax 5 (ln1).toNat = A 5 (ln1).toNat from (congrFun (hFx.2 5 rfl) _))  (h_lv := ⟨(Int.le_trans (by decide : (-2147483648 : Int) ≤ -2147483648) h_lv.1), (Int.le_trans h_lv.2 (by decide : (2147483647 : Int) ≤ 2147483647))⟩)  (p_0 := by omega)) (fun o V' hq => ?_)
    obtain ⟨G2, A3, r4, fk2_5, rfl, rfl, hW6, hF7, b8, e9, q10⟩ := hq
    have hF11 := Fr_tr hFx hF7 (Fr_sub (by decide)) (Fr_sub (by decide))
    have hP12 := Pf_f hPx hF7 (by decide)
    have hS13 := Fx_f hSx hF7 (by decide)
    have hV14 := Fx_f hVx hF7 (by decide)
    have sf15 : ND A3 (n) (30) (0) (0) (0) (0) (Ax 21 (n).toNat) (0) := ND_ag (by omega) (Ag_fr hF7 (by decide)) iv_14
    have sf16 : CI 1 A3 (sy1) pb (k) (Vs) (n) (last) (n + 1) (nd1) (sy) (sy1) := CI_ag (by omega) (by omega) (Sg_fr hF7 (by decide)) (Qg_fr hF7 (by decide)) (Ag_fr hF7 (by decide)) (congrFun (hF7.2 21 rfl) _) iv_15
    have bfk2_5 : (0 : Int) ≤ fk2_5 ∧ fk2_5 ≤ 6 := e9 ▸ hW6.1 16
    refine .inr ⟨_, rfl, ?_⟩
    rcases q10 with ⟨rfl, a17, a18, a19, a20⟩ | ⟨rfl, a21⟩ | ⟨rfl, a22, a23, a24⟩
    · have _q : True := trivial
      have b25 : (0 : Int) ≤ A 4 (ln1).toNat ∧ A 4 (ln1).toNat ≤ 3000 := hW.2 4 _
      have lt26 : lf1 < A 4 (ln1).toNat := LT_at (LT_ext (((hF7.1 3 rfl).trans (hFx.1 3 rfl))) (((hF7.2 3 rfl).trans (hFx.2 3 rfl))) (((hF7.2 4 rfl).trans (hFx.2 4 rfl))) i_LT) (show G2 3 = li from ((hF7.1 3 rfl).trans ((hFx.1 3 rfl).trans (e_li)))) (show A3 3 (ln1).toNat = lf1 from (congrFun (hF7.2 3 rfl) _).trans (ex_lf1)) (show A3 4 (ln1).toNat = A 4 (ln1).toNat from (congrFun ((hF7.2 4 rfl).trans (hFx.2 4 rfl)) _)) (by omega) (by omega)
      refine jx_if_eq (pc' := 29) (tg := 112) rfl rfl rfl (by decide) (by decide) (fun h27 => ?_) (fun h27 => ?_)
      · have _q := h27
        exact absurd h27 (by omega)
      · have _q := h27
        refine jx_ld (pc' := 30) (l' := L) (st' := [.ref 66]) rfl (jl_aloadn gL_0) ?_
        refine jx_vr (pc' := 33) (as := []) (st := []) rfl rfl rfl rfl ⟨rfl, rfl, Nat.le_of_ble_eq_true rfl⟩ rfl rfl (c_openLine (dd := d) (hd := by omega) (hW := hW6)  (ln := ln1) (e_ln := show G2 9 = ln1 from ((hF7.1 9 rfl).trans (ex_ln1))) (le := A 4 (ln1).toNat) (e_le := show A3 4 (ln1).toNat = A 4 (ln1).toNat from (congrFun ((hF7.2 4 rfl).trans (hFx.2 4 rfl)) _)) (lf := lf1) (e_lf := show A3 3 (ln1).toNat = lf1 from (congrFun (hF7.2 3 rfl) _).trans (ex_lf1))    (p_0 := by omega)) (fun o V' hq => ?_)
        obtain ⟨G28, A29, at2_30, tk2_31, op2_32, rfl, rfl, hW33, hF34, e35, e36, e37, p38, p39, p40, p41, -⟩ := hq
        have hF43 := Fr_tr hF11 hF34 (Fr_sub (by decide)) (Fr_sub (by decide))
        have hP44 := Pf_f hP12 hF34 (by decide)
        have hS45 := Fx_f hS13 hF34 (by decide)
        have hV46 := Fx_f hV14 hF34 (by decide)
        have sf47 : ND A29 (n) (30) (0) (0) (0) (0) (Ax 21 (n).toNat) (0) := ND_ag (by omega) (Ag_fr hF34 (by decide)) sf15
        have sf48 : CI 1 A29 (sy1) pb (k) (Vs) (n) (last) (n + 1) (nd1) (sy) (sy1) := CI_ag (by omega) (by omega) (Sg_fr hF34 (by decide)) (Qg_fr hF34 (by decide)) (Ag_fr hF34 (by decide)) (congrFun (hF34.2 21 rfl) _) sf16
        have bat2_30 : (0 : Int) ≤ at2_30 ∧ at2_30 ≤ 3002 := e35 ▸ hW33.1 10
        have ztk2_31 := tz_b tk2_31
        have btk2_31 : (0 : Int) ≤ tk2_31 ∧ tk2_31 ≤ 5 := e36 ▸ hW33.1 11
        have bop2_32 : (-2147483648 : Int) ≤ op2_32 ∧ op2_32 ≤ 2147483647 := e37 ▸ hW33.1 15
        refine .inl ⟨rfl, ?_⟩
        refine jx_ld (pc' := 34) (l' := L) (st' := [.ref 66]) rfl (jl_aloadn gL_0) ?_
        refine jx_ar (pc' := 36) (st' := [.int (i32 (34)), .ref 66]) rfl rfl rfl rfl ?_
        refine jx_ar (pc' := 37) (st' := [.int (i32 (0)), .int (i32 (34)), .ref 66]) rfl rfl rfl rfl ?_
        refine jx_ar (pc' := 38) (st' := [.int (i32 (0)), .int (i32 (0)), .int (i32 (34)), .ref 66]) rfl rfl rfl rfl ?_
        refine jx_ar (pc' := 39) (st' := [.int (i32 (0)), .int (i32 (0)), .int (i32 (0)), .int (i32 (34)), .ref 66]) rfl rfl rfl rfl ?_
        refine jx_ar (pc' := 40) (st' := [.int (i32 (0)), .int (i32 (0)), .int (i32 (0)), .int (i32 (0)), .int (i32 (34)), .ref 66]) rfl rfl rfl rfl ?_
        refine jx_vr (pc' := 43) (as := [.int (i32 (34)), .int (i32 (0)), .int (i32 (0)), .int (i32 (0)), .int (i32 (0))]) (st := []) rfl rfl rfl rfl ⟨rfl, rfl, Nat.le_of_ble_eq_true rfl⟩ rfl rfl (c_node (dd := d) (hd := by omega) (hW := hW33) (kind := 34) (a := 0) (b := 0) (c := 0) (e := 0) (nd := nd1) (e_nd := show G28 31 = nd1 from ((hF34.1 31 rfl).trans ((hF7.1 31 rfl).trans (ex_nd1))))  (h_kind := ⟨(by decide), (by decide)⟩) (h_a := ⟨(by decide), (by decide)⟩) (h_b := ⟨(by decide), (by decide)⟩) (h_c := ⟨(by decide), (by decide)⟩) (h_e := ⟨(by decide), (by decide)⟩)  (p_0 := by omega) (p_1 := by omega)) (fun o V' hq => ?_)
        obtain ⟨G49, A50, nd2_51, rfl, rfl, hW52, hF53, hQ54, e55, p56, p57, -⟩ := hq
        have hF59 := Fr_tr hF43 hF53 (Fr_sub (by decide)) (Fr_sub (by decide))
        have hP60 := Pf_tr hP44 hQ54 (by omega)
        have hS61 := Fx_f hS45 hF53 (by decide)
        have hV62 := Fx_f hV46 hF53 (by decide)
        have sf63 : ND A50 (n) (30) (0) (0) (0) (0) (Ax 21 (n).toNat) (0) := ND_ag (by omega) (Ag_pf hQ54 (by omega)) sf47
        have sf64 : CI 1 A50 (sy1) pb (k) (Vs) (n) (last) (n + 1) (nd1) (sy) (sy1) := CI_ag (by omega) (by omega) (Sg_fr hF53 (by decide)) (Qg_fr hF53 (by decide)) (Ag_pf hQ54 (by omega)) (hQ54 21 _ rfl (by omega)) sf48
        have bnd2_51 : (0 : Int) ≤ nd2_51 ∧ nd2_51 ≤ 6999 := e55 ▸ hW52.1 31
        refine .inr ⟨_, rfl, ?_⟩
        refine jx_ld (pc' := 45) (l' := jSto1 L 4 (.int (i32 (nd1)))) (st' := []) rfl rfl ?_
        obtain ⟨L65, eL65⟩ : ∃ q, q = jSto1 L 4 (.int (i32 (nd1))) := ⟨_, rfl⟩
        rw [← eL65]
        have gL65_0 : jGet L65 0 = some (.ref 66) := eL65 ▸ jg_ne (by decide) gL_0 rfl
        have gL65_1 : jGet L65 1 = some (.int (i32 (lv))) := eL65 ▸ jg_ne (by decide) gL_1 rfl
        have gL65_2 : jGet L65 2 = some (.int (i32 (n))) := eL65 ▸ jg_ne (by decide) gL_2 rfl
        have gL65_3 : jGet L65 3 = some (.int (i32 (last))) := eL65 ▸ jg_ne (by decide) gL_3 rfl
        have gL65_4 : jGet L65 4 = some (.int (i32 (nd1))) := eL65 ▸ jg_eq
        refine jx_ld (pc' := 46) (l' := L65) (st' := [.ref 66]) rfl (jl_aloadn gL65_0) ?_
        refine jr_get (pc' := 49) (i := 34) (v := .ref 84) rfl rfl (by decide) rfl rfl ?_
        refine jx_ld (pc' := 51) (l' := L65) (st' := [.int (i32 (nd1)), .ref 84]) rfl (jl_iload gL65_4) ?_
        refine jx_ld (pc' := 52) (l' := L65) (st' := [.ref 66, .int (i32 (nd1)), .ref 84]) rfl (jl_aloadn gL65_0) ?_
        refine jx_vr (pc' := 55) (as := []) (st := [.int (i32 (nd1)), .ref 84]) rfl rfl rfl rfl ⟨rfl, rfl, Nat.le_of_ble_eq_true rfl⟩ rfl rfl (RE_all X 9 (dd := d) (hd := by omega) (hW := hW52)  (ln := ln1) (e_ln := show G49 9 = ln1 from ((hF53.1 9 rfl).trans ((hF34.1 9 rfl).trans ((hF7.1 9 rfl).trans (ex_ln1))))) (le := A 4 (ln1).toNat) (e_le := show A50 4 (ln1).toNat = A 4 (ln1).toNat from (congrFun ((hF53.2 4 rfl).trans ((hF34.2 4 rfl).trans ((hF7.2 4 rfl).trans (hFx.2 4 rfl)))) _)) (at0 := at2_30) (e_at0 := show G49 10 = at2_30 from ((hF53.1 10 rfl).trans (e35))) (fk := fk2_5) (e_fk := show G49 16 = fk2_5 from ((hF53.1 16 rfl).trans ((hF34.1 16 rfl).trans (e9)))) (op0 := op2_32) (e_op0 := show G49 15 = op2_32 from ((hF53.1 15 rfl).trans (e37))) (nd := nd2_51) (e_nd := show G49 31 = nd2_51 from (e55)) (tk0 := tk2_31) (e_tk0 := show G49 11 = tk2_31 from ((hF53.1 11 rfl).trans (e36))) (i_SV := (SV_fx i_SV e_vi (show G49 29 = vi1 from ((hF53.1 29 rfl).trans ((hF34.1 29 rfl).trans ((hF7.1 29 rfl).trans (ex_vi1))))) (by omega) hV62))   (p_0 := by omega) (p_1 := by omega) (p_2 := by omega) (p_3 := by omega) (p_4 := by omega) (p_5 := by omega)) (fun o V' hq => ?_)
        obtain ⟨G66, A67, r68, at2_69, fk2_70, op2_71, nd2_72, tk2_73, rfl, rfl, hW74, hF75, hQ76, b77, e78, e79, e80, e81, e82, p83, p84, p85, p86, p87, p88, q89⟩ := hq
        have hF90 := Fr_tr hF59 hF75 (Fr_sub (by decide)) (Fr_sub (by decide))
        have hP91 := Pf_tr hP60 hQ76 (by omega)
        have hS92 := Fx_f hS61 hF75 (by decide)
        have hV93 := Fx_f hV62 hF75 (by decide)
        have sf94 : ND A67 (n) (30) (0) (0) (0) (0) (Ax 21 (n).toNat) (0) := ND_ag (by omega) (Ag_pf hQ76 (by omega)) sf63
        have sf95 : CI 1 A67 (sy1) pb (k) (Vs) (n) (last) (n + 1) (nd1) (sy) (sy1) := CI_ag (by omega) (by omega) (Sg_fr hF75 (by decide)) (Qg_fr hF75 (by decide)) (Ag_pf hQ76 (by omega)) (hQ76 21 _ rfl (by omega)) sf64
        have sf96 : ND A67 (nd1) (34) (0) (0) (0) (0) (0) (0) := ND_ag (by omega) (Ag_pf hQ76 (by omega)) p57
        have bat2_69 : (0 : Int) ≤ at2_69 ∧ at2_69 ≤ 3002 := e78 ▸ hW74.1 10
        have bfk2_70 : (0 : Int) ≤ fk2_70 ∧ fk2_70 ≤ 6 := e79 ▸ hW74.1 16
        have bop2_71 : (-2147483648 : Int) ≤ op2_71 ∧ op2_71 ≤ 2147483647 := e80 ▸ hW74.1 15
        have bnd2_72 : (0 : Int) ≤ nd2_72 ∧ nd2_72 ≤ 6999 := e81 ▸ hW74.1 31
        have ztk2_73 := tz_b tk2_73
        have btk2_73 : (0 : Int) ≤ tk2_73 ∧ tk2_73 ≤ 5 := e82 ▸ hW74.1 11
        refine .inr ⟨_, rfl, ?_⟩
        rcases q89 with ⟨a97, a98, a99, a100, a101, a102⟩ | ⟨a103, a104, a105⟩ | ⟨a106, a107, a108, a109⟩
        · have _q : True := trivial
          exfalso
          omega
        · have _q : True := trivial
          refine jr_st (pc' := 56) (i := 17) (m := 7000) (z := nd1) (y := r68) rfl (by decide) rfl (by decide) (by omega) (by omega) rfl ?_
          have hW111 : Wk G66 (uA A67 17 (nd1).toNat (r68)) := Wk_a hW74 (show (-2147483648 : Int) ≤ r68 by omega) (show r68 ≤ (2147483647 : Int) by omega)
          have hF112 := Fr_a (z := r68) (k := 17) (n := (nd1).toNat) hF90 (by decide)
          obtain ⟨A110, eA110⟩ : ∃ q, q = uA A67 17 (nd1).toNat (r68) := ⟨_, rfl⟩
          rw [← eA110]
          rw [← eA110] at hW111 hF112
          have q113 : A110 17 (nd1).toNat = r68 := by rw [eA110]; exact uA_eq
          have hP114 : Pf nd A A110 := eA110 ▸ Pf_a hP91 (z := nd1) (by omega) (by omega)
          have hS115 : Fx sr (sy) A A110 := eA110 ▸ Fx_n hS92 rfl
          have hV116 : Fx [14] (vi) A A110 := eA110 ▸ Fx_n hV93 rfl
          have sf117 : ND A110 (n) (30) (0) (0) (0) (0) (Ax 21 (n).toNat) (0) := ND_ag (by omega) (Ag_st eA110 (by omega) (by omega)) sf94
          have sf118 : CI 1 A110 (sy1) pb (k) (Vs) (n) (last) (n + 1) (nd1) (sy) (sy1) := CI_ag (by omega) (by omega) (Sg_ne eA110 rfl) (Qg_ne eA110 rfl) (Ag_st eA110 (by omega) (by omega)) ((congrFun ((congrFun eA110 21).trans (uA_ne (by decide))) _)) sf95
          have sf119 : ND A110 (nd1) (34) (r68) (0) (0) (0) (0) (0) := ND_a eA110 sf96
          refine jx_ld (pc' := 57) (l' := L65) (st' := [.ref 66]) rfl (jl_aloadn gL65_0) ?_
          refine jx_vr (pc' := 60) (as := []) (st := []) rfl rfl rfl rfl ⟨rfl, rfl, Nat.le_of_ble_eq_true rfl⟩ rfl rfl (c_endLine (dd := d) (hd := by omega) (hW := hW111)  (ln := ln1) (e_ln := show G66 9 = ln1 from ((hF75.1 9 rfl).trans ((hF53.1 9 rfl).trans ((hF34.1 9 rfl).trans ((hF7.1 9 rfl).trans (ex_ln1)))))) (li := li) (e_li := show G66 3 = li from ((hF75.1 3 rfl).trans ((hF53.1 3 rfl).trans ((hF34.1 3 rfl).trans ((hF7.1 3 rfl).trans ((hFx.1 3 rfl).trans (e_li))))))) (fk := fk2_70) (e_fk := show G66 16 = fk2_70 from (e79)) (tk0 := tk2_73) (e_tk0 := show G66 11 = tk2_73 from (e82))    (p_0 := by omega)) (fun o V' hq => ?_)
          obtain ⟨G120, A121, ln2_122, fk2_123, rfl, rfl, hW124, hF125, e126, e127, q128⟩ := hq
          have hF129 := Fr_tr hF112 hF125 (Fr_sub (by decide)) (Fr_sub (by decide))
          have hP130 := Pf_f hP114 hF125 (by decide)
          have hS131 := Fx_f hS115 hF125 (by decide)
          have hV132 := Fx_f hV116 hF125 (by decide)
          have sf133 : ND A121 (n) (30) (0) (0) (0) (0) (Ax 21 (n).toNat) (0) := ND_ag (by omega) (Ag_fr hF125 (by decide)) sf117
          have sf134 : CI 1 A121 (sy1) pb (k) (Vs) (n) (last) (n + 1) (nd1) (sy) (sy1) := CI_ag (by omega) (by omega) (Sg_fr hF125 (by decide)) (Qg_fr hF125 (by decide)) (Ag_fr hF125 (by decide)) (congrFun (hF125.2 21 rfl) _) sf118
          have sf135 : ND A121 (nd1) (34) (r68) (0) (0) (0) (0) (0) := ND_ag (by omega) (Ag_fr hF125 (by decide)) sf119
          have bln2_122 : (0 : Int) ≤ ln2_122 ∧ ln2_122 ≤ 3000 := e126 ▸ hW124.1 9
          have bfk2_123 : (0 : Int) ≤ fk2_123 ∧ fk2_123 ≤ 6 := e127 ▸ hW124.1 16
          refine .inl ⟨rfl, ?_⟩
          rcases q128 with ⟨a136, a137, a138, a139, a140⟩ | ⟨a141, a142⟩
          · have _q : True := trivial
            exfalso
            omega
          · have _q : True := trivial
            refine jx_ld (pc' := 61) (l' := L65) (st' := [.ref 66]) rfl (jl_aloadn gL65_0) ?_
            refine jx_vr (pc' := 64) (as := []) (st := []) rfl rfl rfl rfl ⟨rfl, rfl, Nat.le_of_ble_eq_true rfl⟩ rfl rfl (c_bad (dd := d) (hd := by omega) (hW := hW124)  (fk := fk2_123) (e_fk := show G120 16 = fk2_123 from (e127))    ) (fun o V' hq => ?_)
            obtain ⟨r143, rfl, rfl, b144, q145⟩ := hq
            refine .inr ⟨_, rfl, ?_⟩
            rcases q145 with ⟨rfl, a146⟩ | ⟨rfl, a147⟩
            · have _q : True := trivial
              refine jx_if_eq (pc' := 67) (tg := 71) rfl rfl rfl (by decide) (by decide) (fun h148 => ?_) (fun h148 => ?_)
              · have _q := h148
                exact absurd h148 (by omega)
              · have _q := h148
                refine jx_ar (pc' := 68) (st' := [.int (i32 (0))]) rfl rfl rfl rfl ?_
                refine jx_go (tg := 78) rfl rfl ?_
                refine jx_ld (pc' := 80) (l' := jSto1 L65 5 (.int (i32 (0)))) (st' := []) rfl rfl ?_
                obtain ⟨L149, eL149⟩ : ∃ q, q = jSto1 L65 5 (.int (i32 (0))) := ⟨_, rfl⟩
                rw [← eL149]
                have gL149_0 : jGet L149 0 = some (.ref 66) := eL149 ▸ jg_ne (by decide) gL65_0 rfl
                have gL149_1 : jGet L149 1 = some (.int (i32 (lv))) := eL149 ▸ jg_ne (by decide) gL65_1 rfl
                have gL149_2 : jGet L149 2 = some (.int (i32 (n))) := eL149 ▸ jg_ne (by decide) gL65_2 rfl
                have gL149_3 : jGet L149 3 = some (.int (i32 (last))) := eL149 ▸ jg_ne (by decide) gL65_3 rfl
                have gL149_4 : jGet L149 4 = some (.int (i32 (nd1))) := eL149 ▸ jg_ne (by decide) gL65_4 rfl
                have gL149_5 : jGet L149 5 = some (.int (i32 (0))) := eL149 ▸ jg_eq
                refine jx_ld (pc' := 81) (l' := L149) (st' := [.ref 66]) rfl (jl_aloadn gL149_0) ?_
                refine jx_vr (pc' := 84) (as := []) (st := []) rfl rfl rfl rfl ⟨rfl, rfl, Nat.le_of_ble_eq_true rfl⟩ rfl rfl (c_bad (dd := d) (hd := by omega) (hW := hW124)  (fk := fk2_123) (e_fk := show G120 16 = fk2_123 from (e127))    ) (fun o V' hq => ?_)
                obtain ⟨r150, rfl, rfl, b151, q152⟩ := hq
                refine .inr ⟨_, rfl, ?_⟩
                rcases q152 with ⟨rfl, a153⟩ | ⟨rfl, a154⟩
                · have _q : True := trivial
                  refine jx_if_eq (pc' := 87) (tg := 89) rfl rfl rfl (by decide) (by decide) (fun h155 => ?_) (fun h155 => ?_)
                  · have _q := h155
                    exact absurd h155 (by omega)
                  · have _q := h155
                    refine jx_ar (pc' := 88) (st' := [.int (i32 (0))]) rfl rfl rfl rfl ?_
                    refine jx_rt (v := some (.int (i32 (0)))) rfl rfl rfl rfl rfl rfl ?_
                    exact ⟨_, _, _, ln2_122, at2_69, fk2_123, nd2_72, sy1, na1, vi1, A 3 (ln2_122).toNat, rfl, rfl, hW124, hF129, hP130, hS131, hV132, by omega, (e126), ((hF125.1 10 rfl).trans (e78)), (e127), ((hF125.1 31 rfl).trans (e81)), ((hF125.1 19 rfl).trans ((hF75.1 19 rfl).trans ((hF53.1 19 rfl).trans ((hF34.1 19 rfl).trans ((hF7.1 19 rfl).trans (ex_sy1)))))), ((hF125.1 28 rfl).trans ((hF75.1 28 rfl).trans ((hF53.1 28 rfl).trans ((hF34.1 28 rfl).trans ((hF7.1 28 rfl).trans (ex_na1)))))), ((hF125.1 29 rfl).trans ((hF75.1 29 rfl).trans ((hF53.1 29 rfl).trans ((hF34.1 29 rfl).trans ((hF7.1 29 rfl).trans (ex_vi1)))))), (congrFun ((hF125.2 3 rfl).trans (((congrFun eA110 3).trans (uA_ne (by decide))).trans ((hF75.2 3 rfl).trans ((hF53.2 3 rfl).trans ((hF34.2 3 rfl).trans ((hF7.2 3 rfl).trans (hFx.2 3 rfl))))))) _), by omega, by omega, by omega, by omega, by omega, by omega, by omega, by omega, by omega, by omega, by first | exact Or.inl (⟨by omega, by omega⟩)⟩
                · have _q : True := trivial
                  exfalso
                  omega
            · have _q : True := trivial
              exfalso
              omega
        · have _q : True := trivial
          refine jr_st (pc' := 56) (i := 17) (m := 7000) (z := nd1) (y := r68) rfl (by decide) rfl (by decide) (by omega) (by omega) rfl ?_
          have hW157 : Wk G66 (uA A67 17 (nd1).toNat (r68)) := Wk_a hW74 (show (-2147483648 : Int) ≤ r68 by omega) (show r68 ≤ (2147483647 : Int) by omega)
          have hF158 := Fr_a (z := r68) (k := 17) (n := (nd1).toNat) hF90 (by decide)
          obtain ⟨A156, eA156⟩ : ∃ q, q = uA A67 17 (nd1).toNat (r68) := ⟨_, rfl⟩
          rw [← eA156]
          rw [← eA156] at hW157 hF158
          have q159 : A156 17 (nd1).toNat = r68 := by rw [eA156]; exact uA_eq
          have hP160 : Pf nd A A156 := eA156 ▸ Pf_a hP91 (z := nd1) (by omega) (by omega)
          have hS161 : Fx sr (sy) A A156 := eA156 ▸ Fx_n hS92 rfl
          have hV162 : Fx [14] (vi) A A156 := eA156 ▸ Fx_n hV93 rfl
          have sf163 : ND A156 (n) (30) (0) (0) (0) (0) (Ax 21 (n).toNat) (0) := ND_ag (by omega) (Ag_st eA156 (by omega) (by omega)) sf94
          have sf164 : CI 1 A156 (sy1) pb (k) (Vs) (n) (last) (n + 1) (nd1) (sy) (sy1) := CI_ag (by omega) (by omega) (Sg_ne eA156 rfl) (Qg_ne eA156 rfl) (Ag_st eA156 (by omega) (by omega)) ((congrFun ((congrFun eA156 21).trans (uA_ne (by decide))) _)) sf95
          have sf165 : ND A156 (nd1) (34) (r68) (0) (0) (0) (0) (0) := ND_a eA156 sf96
          have sf166 : wE A156 Vs sb (2 * 9 + 2) (r68) (nd2_51) (nd2_72) := wE_ag (by omega) (Sg_ne eA156 rfl) (Ag_st eA156 (by omega) (by omega)) a109
          refine jx_ld (pc' := 57) (l' := L65) (st' := [.ref 66]) rfl (jl_aloadn gL65_0) ?_
          refine jx_vr (pc' := 60) (as := []) (st := []) rfl rfl rfl rfl ⟨rfl, rfl, Nat.le_of_ble_eq_true rfl⟩ rfl rfl (c_endLine (dd := d) (hd := by omega) (hW := hW157)  (ln := ln1) (e_ln := show G66 9 = ln1 from ((hF75.1 9 rfl).trans ((hF53.1 9 rfl).trans ((hF34.1 9 rfl).trans ((hF7.1 9 rfl).trans (ex_ln1)))))) (li := li) (e_li := show G66 3 = li from ((hF75.1 3 rfl).trans ((hF53.1 3 rfl).trans ((hF34.1 3 rfl).trans ((hF7.1 3 rfl).trans ((hFx.1 3 rfl).trans (e_li))))))) (fk := fk2_70) (e_fk := show G66 16 = fk2_70 from (e79)) (tk0 := tk2_73) (e_tk0 := show G66 11 = tk2_73 from (e82))    (p_0 := by omega)) (fun o V' hq => ?_)
          obtain ⟨G167, A168, ln2_169, fk2_170, rfl, rfl, hW171, hF172, e173, e174, q175⟩ := hq
          have hF176 := Fr_tr hF158 hF172 (Fr_sub (by decide)) (Fr_sub (by decide))
          have hP177 := Pf_f hP160 hF172 (by decide)
          have hS178 := Fx_f hS161 hF172 (by decide)
          have hV179 := Fx_f hV162 hF172 (by decide)
          have sf180 : ND A168 (n) (30) (0) (0) (0) (0) (Ax 21 (n).toNat) (0) := ND_ag (by omega) (Ag_fr hF172 (by decide)) sf163
          have sf181 : CI 1 A168 (sy1) pb (k) (Vs) (n) (last) (n + 1) (nd1) (sy) (sy1) := CI_ag (by omega) (by omega) (Sg_fr hF172 (by decide)) (Qg_fr hF172 (by decide)) (Ag_fr hF172 (by decide)) (congrFun (hF172.2 21 rfl) _) sf164
          have sf182 : ND A168 (nd1) (34) (r68) (0) (0) (0) (0) (0) := ND_ag (by omega) (Ag_fr hF172 (by decide)) sf165
          have sf183 : wE A168 Vs sb (2 * 9 + 2) (r68) (nd2_51) (nd2_72) := wE_ag (by omega) (Sg_fr hF172 (by decide)) (Ag_fr hF172 (by decide)) sf166
          have bln2_169 : (0 : Int) ≤ ln2_169 ∧ ln2_169 ≤ 3000 := e173 ▸ hW171.1 9
          have bfk2_170 : (0 : Int) ≤ fk2_170 ∧ fk2_170 ≤ 6 := e174 ▸ hW171.1 16
          refine .inl ⟨rfl, ?_⟩
          rcases q175 with ⟨a184, a185, a186, a187, a188⟩ | ⟨a189, a190⟩
          · have _q : True := trivial
            have b191 : (0 : Int) ≤ A 3 (ln2_169).toNat ∧ A 3 (ln2_169).toNat ≤ 3000 := hW.2 3 _
            have lt192 : ln2_169 < li → A 4 (ln1).toNat < A 3 (ln2_169).toNat := fun hh => LT_nx (LT_ext (((hF172.1 3 rfl).trans ((hF75.1 3 rfl).trans ((hF53.1 3 rfl).trans ((hF34.1 3 rfl).trans ((hF7.1 3 rfl).trans (hFx.1 3 rfl))))))) (((hF172.2 3 rfl).trans (((congrFun eA156 3).trans (uA_ne (by decide))).trans ((hF75.2 3 rfl).trans ((hF53.2 3 rfl).trans ((hF34.2 3 rfl).trans ((hF7.2 3 rfl).trans (hFx.2 3 rfl)))))))) (((hF172.2 4 rfl).trans (((congrFun eA156 4).trans (uA_ne (by decide))).trans ((hF75.2 4 rfl).trans ((hF53.2 4 rfl).trans ((hF34.2 4 rfl).trans ((hF7.2 4 rfl).trans (hFx.2 4 rfl)))))))) i_LT) (show G167 3 = li from ((hF172.1 3 rfl).trans ((hF75.1 3 rfl).trans ((hF53.1 3 rfl).trans ((hF34.1 3 rfl).trans ((hF7.1 3 rfl).trans ((hFx.1 3 rfl).trans (e_li)))))))) (show A168 4 (ln1).toNat = A 4 (ln1).toNat from (congrFun ((hF172.2 4 rfl).trans (((congrFun eA156 4).trans (uA_ne (by decide))).trans ((hF75.2 4 rfl).trans ((hF53.2 4 rfl).trans ((hF34.2 4 rfl).trans ((hF7.2 4 rfl).trans (hFx.2 4 rfl))))))) _)) (show A168 3 (ln2_169).toNat = A 3 (ln2_169).toNat from (congrFun ((hF172.2 3 rfl).trans (((congrFun eA156 3).trans (uA_ne (by decide))).trans ((hF75.2 3 rfl).trans ((hF53.2 3 rfl).trans ((hF34.2 3 rfl).trans ((hF7.2 3 rfl).trans (hFx.2 3 rfl))))))) _)) (show ln2_169 = ln1 + 1 by omega) (by omega) hh
            refine jx_ld (pc' := 61) (l' := L65) (st' := [.ref 66]) rfl (jl_aloadn gL65_0) ?_
            refine jx_vr (pc' := 64) (as := []) (st := []) rfl rfl rfl rfl ⟨rfl, rfl, Nat.le_of_ble_eq_true rfl⟩ rfl rfl (c_bad (dd := d) (hd := by omega) (hW := hW171)  (fk := fk2_170) (e_fk := show G167 16 = fk2_170 from (e174))    ) (fun o V' hq => ?_)
            obtain ⟨r193, rfl, rfl, b194, q195⟩ := hq
            refine .inr ⟨_, rfl, ?_⟩
            rcases q195 with ⟨rfl, a196⟩ | ⟨rfl, a197⟩
            · have _q : True := trivial
              exfalso
              omega
            · have _q : True := trivial
              refine jx_if_eq (pc' := 67) (tg := 71) rfl rfl rfl (by decide) (by decide) (fun h198 => ?_) (fun h198 => ?_)
              · have _q := h198
                refine jx_ld (pc' := 72) (l' := L65) (st' := [.ref 66]) rfl (jl_aloadn gL65_0) ?_
                refine jx_ld (pc' := 73) (l' := L65) (st' := [.int (i32 (lv)), .ref 66]) rfl (jl_iloadn gL65_1) ?_
                refine jx_ar (pc' := 74) (st' := [.int (i32 (2)), .int (i32 (lv)), .ref 66]) rfl rfl rfl rfl ?_
                refine jx_add (pc' := 75) rfl rfl ?_
                refine jx_vr (pc' := 78) (as := [.int (i32 ((lv + 2)))]) (st := []) rfl rfl rfl rfl ⟨rfl, rfl, Nat.le_of_ble_eq_true rfl⟩ rfl rfl (hP (dd := d) (hd := by omega) (hW := hW171) (lv := (lv + 2)) (at0 := at2_69) (ln := ln2_169) (e_ln := show G167 9 = ln2_169 from (e173)) (li := li) (e_li := show G167 3 = li from ((hF172.1 3 rfl).trans ((hF75.1 3 rfl).trans ((hF53.1 3 rfl).trans ((hF34.1 3 rfl).trans ((hF7.1 3 rfl).trans ((hFx.1 3 rfl).trans (e_li)))))))) (fk := fk2_170) (e_fk := show G167 16 = fk2_170 from (e174)) (nd := nd2_72) (e_nd := show G167 31 = nd2_72 from ((hF172.1 31 rfl).trans (e81))) (sy := sy1) (e_sy := show G167 19 = sy1 from ((hF172.1 19 rfl).trans ((hF75.1 19 rfl).trans ((hF53.1 19 rfl).trans ((hF34.1 19 rfl).trans ((hF7.1 19 rfl).trans (ex_sy1))))))) (na := na1) (e_na := show G167 28 = na1 from ((hF172.1 28 rfl).trans ((hF75.1 28 rfl).trans ((hF53.1 28 rfl).trans ((hF34.1 28 rfl).trans ((hF7.1 28 rfl).trans (ex_na1))))))) (vi := vi1) (e_vi := show G167 29 = vi1 from ((hF172.1 29 rfl).trans ((hF75.1 29 rfl).trans ((hF53.1 29 rfl).trans ((hF34.1 29 rfl).trans ((hF7.1 29 rfl).trans (ex_vi1))))))) (lf := A 3 (ln2_169).toNat) (e_lf := show A168 3 (ln2_169).toNat = A 3 (ln2_169).toNat from (congrFun ((hF172.2 3 rfl).trans (((congrFun eA156 3).trans (uA_ne (by decide))).trans ((hF75.2 3 rfl).trans ((hF53.2 3 rfl).trans ((hF34.2 3 rfl).trans ((hF7.2 3 rfl).trans (hFx.2 3 rfl))))))) _)) (ac := at2_69) (e_ac := show G167 10 = at2_69 from ((hF172.1 10 rfl).trans (e78))) (i_LT := (LT_ext (((hF172.1 3 rfl).trans ((hF75.1 3 rfl).trans ((hF53.1 3 rfl).trans ((hF34.1 3 rfl).trans ((hF7.1 3 rfl).trans (hFx.1 3 rfl))))))) (((hF172.2 3 rfl).trans (((congrFun eA156 3).trans (uA_ne (by decide))).trans ((hF75.2 3 rfl).trans ((hF53.2 3 rfl).trans ((hF34.2 3 rfl).trans ((hF7.2 3 rfl).trans (hFx.2 3 rfl)))))))) (((hF172.2 4 rfl).trans (((congrFun eA156 4).trans (uA_ne (by decide))).trans ((hF75.2 4 rfl).trans ((hF53.2 4 rfl).trans ((hF34.2 4 rfl).trans ((hF7.2 4 rfl).trans (hFx.2 4 rfl)))))))) i_LT)) (i_SV := (SV_fx i_SV e_vi (show G167 29 = vi1 from ((hF172.1 29 rfl).trans ((hF75.1 29 rfl).trans ((hF53.1 29 rfl).trans ((hF34.1 29 rfl).trans ((hF7.1 29 rfl).trans (ex_vi1))))))) (by omega) hV179)) (i_PQ := (PQ_fx i_PQ hS178 (by omega) (hF176.2 29 rfl) (hF176.2 30 rfl))) (hvb := hvb) (h_lv := ⟨(by omega), (by omega)⟩)  (p_0 := by omega) (p_1 := by omega) (p_2 := by omega) (p_3 := by omega) (p_4 := by omega) (p_5 := by omega) (p_6 := by omega) (p_7 := by omega) (p_8 := by omega) (p_9 := by omega) (p_10 := by omega)) (fun o V' hq => ?_)
                obtain ⟨G199, A200, r201, ln2_202, at2_203, fk2_204, nd2_205, sy2_206, na2_207, vi2_208, lf2_209, rfl, rfl, hW210, hF211, hQ212, hQ213, hQ214, b215, e216, e217, e218, e219, e220, e221, e222, e223, p224, p225, p226, p227, p228, p229, p230, p231, p232, q233⟩ := hq
                have hF234 := Fr_tr hF176 hF211 (Fr_sub (by decide)) (Fr_sub (by decide))
                have k235 : A200 17 (nd1).toNat = r68 := (hQ212 17 _ rfl (by omega)).trans (show A168 17 (nd1).toNat = r68 from (congrFun (hF172.2 17 rfl) _).trans (q159))
                have hP236 := Pf_tr hP177 hQ212 (by omega)
                have hS237 := Fx_tr hS178 hQ213 (by omega)
                have hV238 := Fx_tr hV179 hQ214 (by omega)
                have sf239 : ND A200 (n) (30) (0) (0) (0) (0) (Ax 21 (n).toNat) (0) := ND_ag (by omega) (Ag_pf hQ212 (by omega)) sf180
                have sf240 : CI 1 A200 (sy1) pb (k) (Vs) (n) (last) (n + 1) (nd1) (sy) (sy1) := CI_ag (by omega) (by omega) (Fx_su hQ213 (by omega)) (Qg_fr hF211 (by decide)) (Ag_pf hQ212 (by omega)) (hQ212 21 _ rfl (by omega)) sf181
                have sf241 : ND A200 (nd1) (34) (r68) (0) (0) (0) (0) (0) := ND_ag (by omega) (Ag_pf hQ212 (by omega)) sf182
                have sf242 : wE A200 Vs sb (2 * 9 + 2) (r68) (nd2_51) (nd2_72) := wE_ag (by omega) (Fx_su hQ213 (by omega)) (Ag_pf hQ212 (by omega)) sf183
                have bln2_202 : (0 : Int) ≤ ln2_202 ∧ ln2_202 ≤ 3000 := e216 ▸ hW210.1 9
                have bat2_203 : (0 : Int) ≤ at2_203 ∧ at2_203 ≤ 3002 := e217 ▸ hW210.1 10
                have bfk2_204 : (0 : Int) ≤ fk2_204 ∧ fk2_204 ≤ 6 := e218 ▸ hW210.1 16
                have bnd2_205 : (0 : Int) ≤ nd2_205 ∧ nd2_205 ≤ 6999 := e219 ▸ hW210.1 31
                have bsy2_206 : (0 : Int) ≤ sy2_206 ∧ sy2_206 ≤ 202 := e220 ▸ hW210.1 19
                have bna2_207 : (0 : Int) ≤ na2_207 ∧ na2_207 ≤ 200 := e221 ▸ hW210.1 28
                have bvi2_208 : (0 : Int) ≤ vi2_208 ∧ vi2_208 ≤ 202 := e222 ▸ hW210.1 29
                have blf2_209 : (0 : Int) ≤ lf2_209 ∧ lf2_209 ≤ 3000 := e223 ▸ hW210.2 3 _
                refine .inr ⟨_, rfl, ?_⟩
                rcases q233 with ⟨a243, a244⟩ | ⟨a245, a246, a247, a248, a249, a250, a251, a252⟩
                · have _q : True := trivial
                  refine jx_ld (pc' := 80) (l' := jSto1 L65 5 (.int (i32 (r201)))) (st' := []) rfl rfl ?_
                  obtain ⟨L253, eL253⟩ : ∃ q, q = jSto1 L65 5 (.int (i32 (r201))) := ⟨_, rfl⟩
                  rw [← eL253]
                  have gL253_0 : jGet L253 0 = some (.ref 66) := eL253 ▸ jg_ne (by decide) gL65_0 rfl
                  have gL253_1 : jGet L253 1 = some (.int (i32 (lv))) := eL253 ▸ jg_ne (by decide) gL65_1 rfl
                  have gL253_2 : jGet L253 2 = some (.int (i32 (n))) := eL253 ▸ jg_ne (by decide) gL65_2 rfl
                  have gL253_3 : jGet L253 3 = some (.int (i32 (last))) := eL253 ▸ jg_ne (by decide) gL65_3 rfl
                  have gL253_4 : jGet L253 4 = some (.int (i32 (nd1))) := eL253 ▸ jg_ne (by decide) gL65_4 rfl
                  have gL253_5 : jGet L253 5 = some (.int (i32 (r201))) := eL253 ▸ jg_eq
                  refine jx_ld (pc' := 81) (l' := L253) (st' := [.ref 66]) rfl (jl_aloadn gL253_0) ?_
                  refine jx_vr (pc' := 84) (as := []) (st := []) rfl rfl rfl rfl ⟨rfl, rfl, Nat.le_of_ble_eq_true rfl⟩ rfl rfl (c_bad (dd := d) (hd := by omega) (hW := hW210)  (fk := fk2_204) (e_fk := show G199 16 = fk2_204 from (e218))    ) (fun o V' hq => ?_)
                  obtain ⟨r254, rfl, rfl, b255, q256⟩ := hq
                  refine .inr ⟨_, rfl, ?_⟩
                  rcases q256 with ⟨rfl, a257⟩ | ⟨rfl, a258⟩
                  · have _q : True := trivial
                    refine jx_if_eq (pc' := 87) (tg := 89) rfl rfl rfl (by decide) (by decide) (fun h259 => ?_) (fun h259 => ?_)
                    · have _q := h259
                      exact absurd h259 (by omega)
                    · have _q := h259
                      refine jx_ar (pc' := 88) (st' := [.int (i32 (0))]) rfl rfl rfl rfl ?_
                      refine jx_rt (v := some (.int (i32 (0)))) rfl rfl rfl rfl rfl rfl ?_
                      exact ⟨_, _, _, ln2_202, at2_203, fk2_204, nd2_205, sy2_206, na2_207, vi2_208, lf2_209, rfl, rfl, hW210, hF234, hP236, hS237, hV238, by omega, (e216), (e217), (e218), (e219), (e220), (e221), (e222), (e223), by omega, by omega, by omega, by omega, by omega, by omega, by omega, by omega, by omega, by omega, by first | exact Or.inl (⟨by omega, by omega⟩)⟩
                  · have _q : True := trivial
                    exfalso
                    omega
                · have _q : True := trivial
                  refine jx_ld (pc' := 80) (l' := jSto1 L65 5 (.int (i32 (r201)))) (st' := []) rfl rfl ?_
                  obtain ⟨L260, eL260⟩ : ∃ q, q = jSto1 L65 5 (.int (i32 (r201))) := ⟨_, rfl⟩
                  rw [← eL260]
                  have gL260_0 : jGet L260 0 = some (.ref 66) := eL260 ▸ jg_ne (by decide) gL65_0 rfl
                  have gL260_1 : jGet L260 1 = some (.int (i32 (lv))) := eL260 ▸ jg_ne (by decide) gL65_1 rfl
                  have gL260_2 : jGet L260 2 = some (.int (i32 (n))) := eL260 ▸ jg_ne (by decide) gL65_2 rfl
                  have gL260_3 : jGet L260 3 = some (.int (i32 (last))) := eL260 ▸ jg_ne (by decide) gL65_3 rfl
                  have gL260_4 : jGet L260 4 = some (.int (i32 (nd1))) := eL260 ▸ jg_ne (by decide) gL65_4 rfl
                  have gL260_5 : jGet L260 5 = some (.int (i32 (r201))) := eL260 ▸ jg_eq
                  refine jx_ld (pc' := 81) (l' := L260) (st' := [.ref 66]) rfl (jl_aloadn gL260_0) ?_
                  refine jx_vr (pc' := 84) (as := []) (st := []) rfl rfl rfl rfl ⟨rfl, rfl, Nat.le_of_ble_eq_true rfl⟩ rfl rfl (c_bad (dd := d) (hd := by omega) (hW := hW210)  (fk := fk2_204) (e_fk := show G199 16 = fk2_204 from (e218))    ) (fun o V' hq => ?_)
                  obtain ⟨r261, rfl, rfl, b262, q263⟩ := hq
                  refine .inr ⟨_, rfl, ?_⟩
                  rcases q263 with ⟨rfl, a264⟩ | ⟨rfl, a265⟩
                  · have _q : True := trivial
                    exfalso
                    omega
                  · have _q : True := trivial
                    refine jx_if_eq (pc' := 87) (tg := 89) rfl rfl rfl (by decide) (by decide) (fun h266 => ?_) (fun h266 => ?_)
                    · have _q := h266
                      refine jx_ld (pc' := 90) (l' := L260) (st' := [.ref 66]) rfl (jl_aloadn gL260_0) ?_
                      refine jr_get (pc' := 93) (i := 38) (v := .ref 88) rfl rfl (by decide) rfl rfl ?_
                      refine jx_ld (pc' := 95) (l' := L260) (st' := [.int (i32 (nd1)), .ref 88]) rfl (jl_iload gL260_4) ?_
                      refine jx_ld (pc' := 97) (l' := L260) (st' := [.int (i32 (r201)), .int (i32 (nd1)), .ref 88]) rfl (jl_iload gL260_5) ?_
                      refine jr_st (pc' := 98) (i := 21) (m := 7000) (z := nd1) (y := r201) rfl (by decide) rfl (by decide) (by omega) (by omega) rfl ?_
                      have hW268 : Wk G199 (uA A200 21 (nd1).toNat (r201)) := Wk_a hW210 (show (-2147483648 : Int) ≤ r201 by omega) (show r201 ≤ (2147483647 : Int) by omega)
                      have hF269 := Fr_a (z := r201) (k := 21) (n := (nd1).toNat) hF234 (by decide)
                      obtain ⟨A267, eA267⟩ : ∃ q, q = uA A200 21 (nd1).toNat (r201) := ⟨_, rfl⟩
                      rw [← eA267]
                      rw [← eA267] at hW268 hF269
                      have q270 : A267 21 (nd1).toNat = r201 := by rw [eA267]; exact uA_eq
                      have hP271 : Pf nd A A267 := eA267 ▸ Pf_a hP236 (z := nd1) (by omega) (by omega)
                      have hS272 : Fx sr (sy) A A267 := eA267 ▸ Fx_n hS237 rfl
                      have hV273 : Fx [14] (vi) A A267 := eA267 ▸ Fx_n hV238 rfl
                      have sf274 : ND A267 (n) (30) (0) (0) (0) (0) (Ax 21 (n).toNat) (0) := ND_ag (by omega) (Ag_st eA267 (by omega) (by omega)) sf239
                      have sf275 : CI 1 A267 (sy1) pb (k) (Vs) (n) (last) (n + 1) (nd1) (sy) (sy1) := CI_ag (by omega) (by omega) (Sg_ne eA267 rfl) (Qg_ne eA267 rfl) (Ag_st eA267 (by omega) (by omega)) ((by rw [eA267]; exact uA_ni (by omega))) sf240
                      have sf276 : ND A267 (nd1) (34) (r68) (0) (0) (0) (r201) (0) := ND_f eA267 sf241
                      have sf277 : wE A267 Vs sb (2 * 9 + 2) (r68) (nd2_51) (nd2_72) := wE_ag (by omega) (Sg_ne eA267 rfl) (Ag_st eA267 (by omega) (by omega)) sf242
                      have sf278 : wP A267 (sy2_206) pb (k) (Vs) (r201) (nd2_72) (nd2_205) (sy1) (sy2_206) := wP_ag (Sg_ne eA267 rfl) (Qg_ne eA267 rfl) (by omega) (by omega) (Ax_ag (Ag_st eA267 (by omega) (by omega))) a251
                      have sf279 : NX A267 (r201) := NX_r eA267 (by decide) a252
                      refine jx_ld (pc' := 99) (l' := L260) (st' := [.ref 66]) rfl (jl_aloadn gL260_0) ?_
                      refine jx_ld (pc' := 100) (l' := L260) (st' := [.int (i32 (n)), .ref 66]) rfl (jl_iloadn gL260_2) ?_
                      refine jx_ld (pc' := 101) (l' := L260) (st' := [.int (i32 (last)), .int (i32 (n)), .ref 66]) rfl (jl_iloadn gL260_3) ?_
                      refine jx_ld (pc' := 103) (l' := L260) (st' := [.int (i32 (nd1)), .int (i32 (last)), .int (i32 (n)), .ref 66]) rfl (jl_iload gL260_4) ?_
                      refine jx_vr (pc' := 106) (as := [.int (i32 (n)), .int (i32 (last)), .int (i32 (nd1))]) (st := []) rfl rfl rfl rfl ⟨rfl, rfl, Nat.le_of_ble_eq_true rfl⟩ rfl rfl (c_addTo (dd := d) (zz := nd) (hd := by omega) (hW := hW268) (n := n) (last := last) (one := nd1)   (h_n := ⟨(Int.le_trans (by decide : (-2147483648 : Int) ≤ -2147483648) rx_n.1), (Int.le_trans rx_n.2 (by decide : (2147483647 : Int) ≤ 2147483647))⟩) (h_last := ⟨(Int.le_trans (by decide : (-2147483648 : Int) ≤ -2147483648) rx_last.1), (Int.le_trans rx_last.2 (by decide : (2147483647 : Int) ≤ 2147483647))⟩) (h_one := ⟨(Int.le_trans (by decide : (-2147483648 : Int) ≤ 0) b_nd1.1), (Int.le_trans b_nd1.2 (by decide : (6999 : Int) ≤ 2147483647))⟩)  (p_0 := by omega) (p_1 := by omega) (p_2 := by omega) (p_3 := by omega)) (fun o V' hq => ?_)
                      obtain ⟨G280, A281, rfl, rfl, hW282, hF283, hQ284, q285⟩ := hq
                      have hF286 := Fr_tr hF269 hF283 (Fr_sub (by decide)) (Fr_sub (by decide))
                      have hP287 := Pf_tr hP271 hQ284 (by omega)
                      have hS288 := Fx_f hS272 hF283 (by decide)
                      have hV289 := Fx_f hV273 hF283 (by decide)
                      refine .inl ⟨rfl, ?_⟩
                      rcases q285 with ⟨a290, a291⟩ | ⟨a292, a293⟩
                      · have _q : True := trivial
                        have sf294 : ND A281 (n) (30) (0) (0) (0) (0) (nd1) (0) := ND_f a291 sf274
                        have sf295 : CI 1 A281 (sy2_206) pb (k) (Vs) (n) (nd1) (n + 1) (nd2_205) (sy) (sy2_206) := CI_one a291 (by omega) (by omega) (by omega) (by omega) (by omega) (by omega) (show RQ 1 A267 (sy2_206) pb (k) (Vs) (nd1) (nd1) (nd2_205) (sy1) (sy2_206) from wI_mk (m := nd2_72) sf276 (by omega) (by omega) (by omega) (wE_sb (by omega) (wE_mono (by omega) (by omega) (by omega) sf277)) (wP_eq sf278 (by omega) rfl rfl (by omega) rfl (by omega) rfl (by omega))) (NX_nd sf276) (CI_sb (by omega) sf275)
                        have sf296 : ND A281 (nd1) (34) (r68) (0) (0) (0) (r201) (0) := ND_ag (by omega) (Ag_st a291 (by omega) (by omega)) sf276
                        have sf297 : wE A281 Vs sb (2 * 9 + 2) (r68) (nd2_51) (nd2_72) := wE_ag (by omega) (Sg_ne a291 rfl) (Ag_st a291 (by omega) (by omega)) sf277
                        have sf298 : wP A281 (sy2_206) pb (k) (Vs) (r201) (nd2_72) (nd2_205) (sy1) (sy2_206) := wP_ag (Sg_ne a291 rfl) (Qg_ne a291 rfl) (by omega) (by omega) (Ax_ag (Ag_st a291 (by omega) (by omega))) sf278
                        have sf299 : NX A281 (r201) := NX_r a291 (by decide) sf279
                        refine jx_ld (pc' := 108) (l' := L260) (st' := [.int (i32 (nd1))]) rfl (jl_iload gL260_4) ?_
                        refine jx_ld (pc' := 109) (l' := jSto1 L260 3 (.int (i32 (nd1)))) (st' := []) rfl rfl ?_
                        obtain ⟨L300, eL300⟩ : ∃ q, q = jSto1 L260 3 (.int (i32 (nd1))) := ⟨_, rfl⟩
                        rw [← eL300]
                        have gL300_0 : jGet L300 0 = some (.ref 66) := eL300 ▸ jg_ne (by decide) gL260_0 rfl
                        have gL300_1 : jGet L300 1 = some (.int (i32 (lv))) := eL300 ▸ jg_ne (by decide) gL260_1 rfl
                        have gL300_2 : jGet L300 2 = some (.int (i32 (n))) := eL300 ▸ jg_ne (by decide) gL260_2 rfl
                        have gL300_4 : jGet L300 4 = some (.int (i32 (nd1))) := eL300 ▸ jg_ne (by decide) gL260_4 rfl
                        have gL300_5 : jGet L300 5 = some (.int (i32 (r201))) := eL300 ▸ jg_ne (by decide) gL260_5 rfl
                        have gL300_3 : jGet L300 3 = some (.int (i32 (nd1))) := eL300 ▸ jg_eq
                        refine jx_go (tg := 21) rfl rfl ?_
                        exact ih21 _ (by omega) L300 G280 A281 (n) (nd1) (ln2_202) (at2_203) (fk2_204) (nd2_205) (sy2_206) (na2_207) (vi2_208) (lf2_209) rfl gL300_0 gL300_1 gL300_2 gL300_3 hW282 hF286 hP287 hS288 hV289 (((hF283.1 9 rfl).trans (e216))) (((hF283.1 10 rfl).trans (e217))) (((hF283.1 16 rfl).trans (e218))) (((hF283.1 31 rfl).trans (e219))) (((hF283.1 19 rfl).trans (e220))) (((hF283.1 28 rfl).trans (e221))) (((hF283.1 29 rfl).trans (e222))) ((congrFun ((hF283.2 3 rfl).trans ((congrFun eA267 3).trans (uA_ne (by decide)))) _).trans (e223)) (by omega) (by omega) (by omega) (by omega) (by omega) (by omega) (by omega) (by omega) (by omega) (by omega) (by omega) (by omega) (by omega) (by omega) (by omega) (by omega) ((ND_sf sf294)) (sf295)
                      · have _q : True := trivial
                        have sf301 : ND A281 (n) (30) (0) (0) (0) (0) (Ax 21 (n).toNat) (0) := ND_ag (by omega) (Ag_st a293 (by omega) (by omega)) sf274
                        have sf302 : CI 1 A281 (sy2_206) pb (k) (Vs) (n) (nd1) (n + 1) (nd2_205) (sy) (sy2_206) := CI_two a293 (by omega) (by omega) (by omega) (by omega) (by omega) (show RQ 1 A267 (sy2_206) pb (k) (Vs) (nd1) (nd1) (nd2_205) (sy1) (sy2_206) from wI_mk (m := nd2_72) sf276 (by omega) (by omega) (by omega) (wE_sb (by omega) (wE_mono (by omega) (by omega) (by omega) sf277)) (wP_eq sf278 (by omega) rfl rfl (by omega) rfl (by omega) rfl (by omega))) (NX_nd sf276) (CI_sb (by omega) sf275)
                        have sf303 : ND A281 (nd1) (34) (r68) (0) (0) (0) (r201) (0) := ND_ag (by omega) (Ag_st a293 (by omega) (by omega)) sf276
                        have sf304 : wE A281 Vs sb (2 * 9 + 2) (r68) (nd2_51) (nd2_72) := wE_ag (by omega) (Sg_ne a293 rfl) (Ag_st a293 (by omega) (by omega)) sf277
                        have sf305 : wP A281 (sy2_206) pb (k) (Vs) (r201) (nd2_72) (nd2_205) (sy1) (sy2_206) := wP_ag (Sg_ne a293 rfl) (Qg_ne a293 rfl) (by omega) (by omega) (Ax_ag (Ag_st a293 (by omega) (by omega))) sf278
                        have sf306 : NX A281 (r201) := NX_ag (by omega) (Ag_st a293 (by omega) (by omega)) sf279
                        refine jx_ld (pc' := 108) (l' := L260) (st' := [.int (i32 (nd1))]) rfl (jl_iload gL260_4) ?_
                        refine jx_ld (pc' := 109) (l' := jSto1 L260 3 (.int (i32 (nd1)))) (st' := []) rfl rfl ?_
                        obtain ⟨L307, eL307⟩ : ∃ q, q = jSto1 L260 3 (.int (i32 (nd1))) := ⟨_, rfl⟩
                        rw [← eL307]
                        have gL307_0 : jGet L307 0 = some (.ref 66) := eL307 ▸ jg_ne (by decide) gL260_0 rfl
                        have gL307_1 : jGet L307 1 = some (.int (i32 (lv))) := eL307 ▸ jg_ne (by decide) gL260_1 rfl
                        have gL307_2 : jGet L307 2 = some (.int (i32 (n))) := eL307 ▸ jg_ne (by decide) gL260_2 rfl
                        have gL307_4 : jGet L307 4 = some (.int (i32 (nd1))) := eL307 ▸ jg_ne (by decide) gL260_4 rfl
                        have gL307_5 : jGet L307 5 = some (.int (i32 (r201))) := eL307 ▸ jg_ne (by decide) gL260_5 rfl
                        have gL307_3 : jGet L307 3 = some (.int (i32 (nd1))) := eL307 ▸ jg_eq
                        refine jx_go (tg := 21) rfl rfl ?_
                        exact ih21 _ (by omega) L307 G280 A281 (n) (nd1) (ln2_202) (at2_203) (fk2_204) (nd2_205) (sy2_206) (na2_207) (vi2_208) (lf2_209) rfl gL307_0 gL307_1 gL307_2 gL307_3 hW282 hF286 hP287 hS288 hV289 (((hF283.1 9 rfl).trans (e216))) (((hF283.1 10 rfl).trans (e217))) (((hF283.1 16 rfl).trans (e218))) (((hF283.1 31 rfl).trans (e219))) (((hF283.1 19 rfl).trans (e220))) (((hF283.1 28 rfl).trans (e221))) (((hF283.1 29 rfl).trans (e222))) ((congrFun ((hF283.2 3 rfl).trans ((congrFun eA267 3).trans (uA_ne (by decide)))) _).trans (e223)) (by omega) (by omega) (by omega) (by omega) (by omega) (by omega) (by omega) (by omega) (by omega) (by omega) (by omega) (by omega) (by omega) (by omega) (by omega) (by omega) ((ND_sf sf301)) (sf302)
                    · have _q := h266
                      exact absurd h266 (by omega)
              · have _q := h198
                exact absurd h198 (by omega)
          · have _q : True := trivial
            refine jx_ld (pc' := 61) (l' := L65) (st' := [.ref 66]) rfl (jl_aloadn gL65_0) ?_
            refine jx_vr (pc' := 64) (as := []) (st := []) rfl rfl rfl rfl ⟨rfl, rfl, Nat.le_of_ble_eq_true rfl⟩ rfl rfl (c_bad (dd := d) (hd := by omega) (hW := hW171)  (fk := fk2_170) (e_fk := show G167 16 = fk2_170 from (e174))    ) (fun o V' hq => ?_)
            obtain ⟨r308, rfl, rfl, b309, q310⟩ := hq
            refine .inr ⟨_, rfl, ?_⟩
            rcases q310 with ⟨rfl, a311⟩ | ⟨rfl, a312⟩
            · have _q : True := trivial
              refine jx_if_eq (pc' := 67) (tg := 71) rfl rfl rfl (by decide) (by decide) (fun h313 => ?_) (fun h313 => ?_)
              · have _q := h313
                exact absurd h313 (by omega)
              · have _q := h313
                refine jx_ar (pc' := 68) (st' := [.int (i32 (0))]) rfl rfl rfl rfl ?_
                refine jx_go (tg := 78) rfl rfl ?_
                refine jx_ld (pc' := 80) (l' := jSto1 L65 5 (.int (i32 (0)))) (st' := []) rfl rfl ?_
                obtain ⟨L314, eL314⟩ : ∃ q, q = jSto1 L65 5 (.int (i32 (0))) := ⟨_, rfl⟩
                rw [← eL314]
                have gL314_0 : jGet L314 0 = some (.ref 66) := eL314 ▸ jg_ne (by decide) gL65_0 rfl
                have gL314_1 : jGet L314 1 = some (.int (i32 (lv))) := eL314 ▸ jg_ne (by decide) gL65_1 rfl
                have gL314_2 : jGet L314 2 = some (.int (i32 (n))) := eL314 ▸ jg_ne (by decide) gL65_2 rfl
                have gL314_3 : jGet L314 3 = some (.int (i32 (last))) := eL314 ▸ jg_ne (by decide) gL65_3 rfl
                have gL314_4 : jGet L314 4 = some (.int (i32 (nd1))) := eL314 ▸ jg_ne (by decide) gL65_4 rfl
                have gL314_5 : jGet L314 5 = some (.int (i32 (0))) := eL314 ▸ jg_eq
                refine jx_ld (pc' := 81) (l' := L314) (st' := [.ref 66]) rfl (jl_aloadn gL314_0) ?_
                refine jx_vr (pc' := 84) (as := []) (st := []) rfl rfl rfl rfl ⟨rfl, rfl, Nat.le_of_ble_eq_true rfl⟩ rfl rfl (c_bad (dd := d) (hd := by omega) (hW := hW171)  (fk := fk2_170) (e_fk := show G167 16 = fk2_170 from (e174))    ) (fun o V' hq => ?_)
                obtain ⟨r315, rfl, rfl, b316, q317⟩ := hq
                refine .inr ⟨_, rfl, ?_⟩
                rcases q317 with ⟨rfl, a318⟩ | ⟨rfl, a319⟩
                · have _q : True := trivial
                  refine jx_if_eq (pc' := 87) (tg := 89) rfl rfl rfl (by decide) (by decide) (fun h320 => ?_) (fun h320 => ?_)
                  · have _q := h320
                    exact absurd h320 (by omega)
                  · have _q := h320
                    refine jx_ar (pc' := 88) (st' := [.int (i32 (0))]) rfl rfl rfl rfl ?_
                    refine jx_rt (v := some (.int (i32 (0)))) rfl rfl rfl rfl rfl rfl ?_
                    exact ⟨_, _, _, ln2_169, at2_69, fk2_170, nd2_72, sy1, na1, vi1, A 3 (ln2_169).toNat, rfl, rfl, hW171, hF176, hP177, hS178, hV179, by omega, (e173), ((hF172.1 10 rfl).trans (e78)), (e174), ((hF172.1 31 rfl).trans (e81)), ((hF172.1 19 rfl).trans ((hF75.1 19 rfl).trans ((hF53.1 19 rfl).trans ((hF34.1 19 rfl).trans ((hF7.1 19 rfl).trans (ex_sy1)))))), ((hF172.1 28 rfl).trans ((hF75.1 28 rfl).trans ((hF53.1 28 rfl).trans ((hF34.1 28 rfl).trans ((hF7.1 28 rfl).trans (ex_na1)))))), ((hF172.1 29 rfl).trans ((hF75.1 29 rfl).trans ((hF53.1 29 rfl).trans ((hF34.1 29 rfl).trans ((hF7.1 29 rfl).trans (ex_vi1)))))), (congrFun ((hF172.2 3 rfl).trans (((congrFun eA156 3).trans (uA_ne (by decide))).trans ((hF75.2 3 rfl).trans ((hF53.2 3 rfl).trans ((hF34.2 3 rfl).trans ((hF7.2 3 rfl).trans (hFx.2 3 rfl))))))) _), by omega, by omega, by omega, by omega, by omega, by omega, by omega, by omega, by omega, by omega, by first | exact Or.inl (⟨by omega, by omega⟩)⟩
                · have _q : True := trivial
                  exfalso
                  omega
            · have _q : True := trivial
              exfalso
              omega
    · have _q : True := trivial
      refine jx_if_eq (pc' := 29) (tg := 112) rfl rfl rfl (by decide) (by decide) (fun h321 => ?_) (fun h321 => ?_)
      · have _q := h321
        refine jx_ld (pc' := 113) (l' := L) (st' := [.ref 66]) rfl (jl_aloadn gL_0) ?_
        refine jx_vr (pc' := 116) (as := []) (st := []) rfl rfl rfl rfl ⟨rfl, rfl, Nat.le_of_ble_eq_true rfl⟩ rfl rfl (c_bad (dd := d) (hd := by omega) (hW := hW6)  (fk := fk2_5) (e_fk := show G2 16 = fk2_5 from (e9))    ) (fun o V' hq => ?_)
        obtain ⟨r322, rfl, rfl, b323, q324⟩ := hq
        refine .inr ⟨_, rfl, ?_⟩
        rcases q324 with ⟨rfl, a325⟩ | ⟨rfl, a326⟩
        · have _q : True := trivial
          refine jx_if_ne (pc' := 119) (tg := 131) rfl rfl rfl (by decide) (by decide) (fun h327 => ?_) (fun h327 => ?_)
          · have _q := h327
            refine jx_ld (pc' := 132) (l' := L) (st' := [.int (i32 (n))]) rfl (jl_iloadn gL_2) ?_
            refine jx_rt (v := some (.int (i32 (n)))) rfl rfl rfl rfl rfl rfl ?_
            exact ⟨_, _, _, ln1, at1, fk2_5, nd1, sy1, na1, vi1, lf1, rfl, rfl, hW6, hF11, hP12, hS13, hV14, by omega, ((hF7.1 9 rfl).trans (ex_ln1)), ((hF7.1 10 rfl).trans (ex_at1)), (e9), ((hF7.1 31 rfl).trans (ex_nd1)), ((hF7.1 19 rfl).trans (ex_sy1)), ((hF7.1 28 rfl).trans (ex_na1)), ((hF7.1 29 rfl).trans (ex_vi1)), (congrFun (hF7.2 3 rfl) _).trans (ex_lf1), by omega, by omega, by omega, by omega, by omega, by omega, by omega, by omega, by omega, by omega, by first | exact Or.inl (⟨by omega, by omega⟩)⟩
          · have _q := h327
            exact absurd h327 (by omega)
        · have _q : True := trivial
          exfalso
          omega
      · have _q := h321
        exact absurd h321 (by omega)
    · have _q : True := trivial
      refine jx_if_eq (pc' := 29) (tg := 112) rfl rfl rfl (by decide) (by decide) (fun h328 => ?_) (fun h328 => ?_)
      · have _q := h328
        refine jx_ld (pc' := 113) (l' := L) (st' := [.ref 66]) rfl (jl_aloadn gL_0) ?_
        refine jx_vr (pc' := 116) (as := []) (st := []) rfl rfl rfl rfl ⟨rfl, rfl, Nat.le_of_ble_eq_true rfl⟩ rfl rfl (c_bad (dd := d) (hd := by omega) (hW := hW6)  (fk := fk2_5) (e_fk := show G2 16 = fk2_5 from (e9))    ) (fun o V' hq => ?_)
        obtain ⟨r329, rfl, rfl, b330, q331⟩ := hq
        refine .inr ⟨_, rfl, ?_⟩
        rcases q331 with ⟨rfl, a332⟩ | ⟨rfl, a333⟩
        · have _q : True := trivial
          exfalso
          omega
        · have _q : True := trivial
          refine jx_if_ne (pc' := 119) (tg := 131) rfl rfl rfl (by decide) (by decide) (fun h334 => ?_) (fun h334 => ?_)
          · have _q := h334
            exact absurd h334 (by omega)
          · have _q := h334
            refine jx_ld (pc' := 120) (l' := L) (st' := [.int (i32 (last))]) rfl (jl_iloadn gL_3) ?_
            refine jx_if_ne (pc' := 123) (tg := 131) rfl rfl rfl (Int.le_trans (by decide : (-2147483648 : Int) ≤ -2147483648) rx_last.1) (Int.le_trans rx_last.2 (by decide : (2147483647 : Int) ≤ 2147483647)) (fun h335 => ?_) (fun h335 => ?_)
            · have _q := h335
              refine jx_ld (pc' := 132) (l' := L) (st' := [.int (i32 (n))]) rfl (jl_iloadn gL_2) ?_
              refine jx_rt (v := some (.int (i32 (n)))) rfl rfl rfl rfl rfl rfl ?_
              exact ⟨_, _, _, ln1, at1, fk2_5, nd1, sy1, na1, vi1, lf1, rfl, rfl, hW6, hF11, hP12, hS13, hV14, by omega, ((hF7.1 9 rfl).trans (ex_ln1)), ((hF7.1 10 rfl).trans (ex_at1)), (e9), ((hF7.1 31 rfl).trans (ex_nd1)), ((hF7.1 19 rfl).trans (ex_sy1)), ((hF7.1 28 rfl).trans (ex_na1)), ((hF7.1 29 rfl).trans (ex_vi1)), (congrFun (hF7.2 3 rfl) _).trans (ex_lf1), by omega, by omega, by omega, by omega, by omega, by omega, by omega, by omega, by omega, by omega, by first | exact Or.inr ((⟨by omega, by omega, by omega, by omega, by omega, by omega, by omega, (wS_ifc sf15 (CI_eq (CI_sb (by omega) sf16) rfl (by omega) (by omega) (by omega) (by omega)) (by omega)), (NX_nd sf15)⟩))⟩
            · have _q := h335
              refine jx_ld (pc' := 124) (l' := L) (st' := [.ref 66]) rfl (jl_aloadn gL_0) ?_
              refine jx_ld (pc' := 125) (l' := L) (st' := [.int (i32 (lv)), .ref 66]) rfl (jl_iloadn gL_1) ?_
              refine jx_ar (pc' := 126) (st' := [.int (i32 (1)), .int (i32 (lv)), .ref 66]) rfl rfl rfl rfl ?_
              refine jx_add (pc' := 127) rfl rfl ?_
              refine jx_vr (pc' := 130) (as := [.int (i32 ((lv + 1)))]) (st := []) rfl rfl rfl rfl ⟨rfl, rfl, Nat.le_of_ble_eq_true rfl⟩ rfl rfl (c_needLevel (dd := d) (hd := by omega) (hW := hW6) (lv := (lv + 1)) (ln := ln1) (e_ln := show G2 9 = ln1 from ((hF7.1 9 rfl).trans (ex_ln1))) (li := li) (e_li := show G2 3 = li from ((hF7.1 3 rfl).trans ((hFx.1 3 rfl).trans (e_li)))) (fk := fk2_5) (e_fk := show G2 16 = fk2_5 from (e9)) (ll := A 5 (ln1).toNat) (e_ll := show A3 5 (ln1).toNat = A 5 (ln1).toNat from (congrFun ((hF7.2 5 rfl).trans (hFx.2 5 rfl)) _))  (h_lv := ⟨(by omega), (by omega)⟩)  ) (fun o V' hq => ?_)
              obtain ⟨G336, A337, r338, fk2_339, rfl, rfl, hW340, hF341, b342, e343, q344⟩ := hq
              have hF345 := Fr_tr hF11 hF341 (Fr_sub (by decide)) (Fr_sub (by decide))
              have hP346 := Pf_f hP12 hF341 (by decide)
              have hS347 := Fx_f hS13 hF341 (by decide)
              have hV348 := Fx_f hV14 hF341 (by decide)
              have sf349 : ND A337 (n) (30) (0) (0) (0) (0) (Ax 21 (n).toNat) (0) := ND_ag (by omega) (Ag_fr hF341 (by decide)) sf15
              have sf350 : CI 1 A337 (sy1) pb (k) (Vs) (n) (last) (n + 1) (nd1) (sy) (sy1) := CI_ag (by omega) (by omega) (Sg_fr hF341 (by decide)) (Qg_fr hF341 (by decide)) (Ag_fr hF341 (by decide)) (congrFun (hF341.2 21 rfl) _) sf16
              have bfk2_339 : (0 : Int) ≤ fk2_339 ∧ fk2_339 ≤ 6 := e343 ▸ hW340.1 16
              refine .inr ⟨_, rfl, ?_⟩
              rcases q344 with ⟨rfl, a351, a352, a353, a354⟩ | ⟨rfl, a355⟩
              · have _q : True := trivial
                have b356 : (0 : Int) ≤ A 4 (ln1).toNat ∧ A 4 (ln1).toNat ≤ 3000 := hW.2 4 _
                have lt357 : lf1 < A 4 (ln1).toNat := LT_at (LT_ext (((hF341.1 3 rfl).trans ((hF7.1 3 rfl).trans (hFx.1 3 rfl)))) (((hF341.2 3 rfl).trans ((hF7.2 3 rfl).trans (hFx.2 3 rfl)))) (((hF341.2 4 rfl).trans ((hF7.2 4 rfl).trans (hFx.2 4 rfl)))) i_LT) (show G336 3 = li from ((hF341.1 3 rfl).trans ((hF7.1 3 rfl).trans ((hFx.1 3 rfl).trans (e_li))))) (show A337 3 (ln1).toNat = lf1 from (congrFun ((hF341.2 3 rfl).trans (hF7.2 3 rfl)) _).trans (ex_lf1)) (show A337 4 (ln1).toNat = A 4 (ln1).toNat from (congrFun ((hF341.2 4 rfl).trans ((hF7.2 4 rfl).trans (hFx.2 4 rfl))) _)) (by omega) (by omega)
                refine jx_ar (pc' := 131) (st' := []) rfl rfl rfl rfl ?_
                refine jx_ld (pc' := 132) (l' := L) (st' := [.int (i32 (n))]) rfl (jl_iloadn gL_2) ?_
                refine jx_rt (v := some (.int (i32 (n)))) rfl rfl rfl rfl rfl rfl ?_
                exact ⟨_, _, _, ln1, at1, fk2_339, nd1, sy1, na1, vi1, lf1, rfl, rfl, hW340, hF345, hP346, hS347, hV348, by omega, ((hF341.1 9 rfl).trans ((hF7.1 9 rfl).trans (ex_ln1))), ((hF341.1 10 rfl).trans ((hF7.1 10 rfl).trans (ex_at1))), (e343), ((hF341.1 31 rfl).trans ((hF7.1 31 rfl).trans (ex_nd1))), ((hF341.1 19 rfl).trans ((hF7.1 19 rfl).trans (ex_sy1))), ((hF341.1 28 rfl).trans ((hF7.1 28 rfl).trans (ex_na1))), ((hF341.1 29 rfl).trans ((hF7.1 29 rfl).trans (ex_vi1))), (congrFun ((hF341.2 3 rfl).trans (hF7.2 3 rfl)) _).trans (ex_lf1), by omega, by omega, by omega, by omega, by omega, by omega, by omega, by omega, by omega, by omega, by first | exact Or.inr ((⟨by omega, by omega, by omega, by omega, by omega, by omega, by omega, (wS_ifc sf349 (CI_eq (CI_sb (by omega) sf350) rfl (by omega) (by omega) (by omega) (by omega)) (by omega)), (NX_nd sf349)⟩))⟩
              · have _q : True := trivial
                refine jx_ar (pc' := 131) (st' := []) rfl rfl rfl rfl ?_
                refine jx_ld (pc' := 132) (l' := L) (st' := [.int (i32 (n))]) rfl (jl_iloadn gL_2) ?_
                refine jx_rt (v := some (.int (i32 (n)))) rfl rfl rfl rfl rfl rfl ?_
                exact ⟨_, _, _, ln1, at1, fk2_339, nd1, sy1, na1, vi1, lf1, rfl, rfl, hW340, hF345, hP346, hS347, hV348, by omega, ((hF341.1 9 rfl).trans ((hF7.1 9 rfl).trans (ex_ln1))), ((hF341.1 10 rfl).trans ((hF7.1 10 rfl).trans (ex_at1))), (e343), ((hF341.1 31 rfl).trans ((hF7.1 31 rfl).trans (ex_nd1))), ((hF341.1 19 rfl).trans ((hF7.1 19 rfl).trans (ex_sy1))), ((hF341.1 28 rfl).trans ((hF7.1 28 rfl).trans (ex_na1))), ((hF341.1 29 rfl).trans ((hF7.1 29 rfl).trans (ex_vi1))), (congrFun ((hF341.2 3 rfl).trans (hF7.2 3 rfl)) _).trans (ex_lf1), by omega, by omega, by omega, by omega, by omega, by omega, by omega, by omega, by omega, by omega, by first | exact Or.inl (⟨by omega, by omega⟩)⟩
      · have _q := h328
        exact absurd h328 (by omega)
set_option maxRecDepth 20000 in
set_option maxHeartbeats 4000000 in
theorem c_readIf {X : jX} {k : Nat} (hP : RP X k) {dd : Nat} {Vs : Nat → Prop} {sb pb : Int} (hvb : VB Vs sb) {c0 c1 : jC} {G : Nat → Int} {A : Nat → Nat → Int} {T : jH} {lv : Int} {ln li at0 fk nd sy na vi le op0 tk0 : Int} (hd : 8 * k + 82 ≤ dd) (hW : Wk G A) (e_ln : G 9 = ln) (e_li : G 3 = li) (e_at0 : G 10 = at0) (e_fk : G 16 = fk) (e_nd : G 31 = nd) (e_sy : G 19 = sy) (e_na : G 28 = na) (e_vi : G 29 = vi) (e_le : A 4 (ln).toNat = le) (e_op0 : G 15 = op0) (e_tk0 : G 11 = tk0) (i_LT : LT G A) (i_SV : SV Vs sb G A) (i_PQ : PQ Vs sb pb G A) (h_lv : (-2147483648 : Int) ≤ lv ∧ lv ≤ 2147483647) (p_0 : 0 ≤ lv ∧ lv ≤ 15) (p_1 : 18 - lv ≤ ((k + 1 : Nat) : Int)) (p_2 : fk = 0) (p_3 : ln < li) (p_4 : at0 ≤ le) (p_5 : op0 = 0) (p_6 : nd ≤ 2 * at0 - tz tk0 + 30) (p_7 : sy ≤ na + 2) (p_8 : vi ≤ sy) (p_9 : sb = sy) (p_10 : 1 ≤ tk0) : wk X dd 301 [.ref 66, .int (i32 lv)] (rV c0 c1 G A T) (fun o V' => ∃ (G' : Nat → Int) (A' : Nat → Nat → Int) (r : Int) (ln2 : Int) (at2 : Int) (fk2 : Int) (nd2 : Int) (sy2 : Int) (na2 : Int) (vi2 : Int) (lf2 : Int), V' = rV c0 c1 G' A' T ∧ o = .inl (some (.int (i32 r))) ∧ Wk G' A' ∧ Fr [9, 10, 11, 12, 13, 14, 15, 16, 17, 18, 19, 28, 29, 31] [6, 7, 8, 9, 10, 11, 12, 14, 15, 16, 17, 18, 19, 20, 21, 22, 23, 24, 28] G A G' A' ∧ Pf nd A A' ∧ Fx sr (sy) A A' ∧ Fx [14] (vi) A A' ∧ ((-2147483648 : Int) ≤ r ∧ r ≤ 2147483647) ∧ G' 9 = ln2 ∧ G' 10 = at2 ∧ G' 16 = fk2 ∧ G' 31 = nd2 ∧ G' 19 = sy2 ∧ G' 28 = na2 ∧ G' 29 = vi2 ∧ A' 3 (ln2).toNat = lf2 ∧ (at0 ≤ at2) ∧ (nd ≤ nd2) ∧ (sy ≤ sy2) ∧ (sy2 ≤ na2 + 2) ∧ (vi ≤ vi2) ∧ (vi2 ≤ vi + 1) ∧ (0 ≤ r) ∧ (r ≤ 6999) ∧ (ln ≤ ln2) ∧ (ln2 ≤ li) ∧ (((1 ≤ fk2) ∧ (nd2 - nd ≤ 2 * at2 - (2 * at0 - tz tk0) + 14)) ∨ ((fk2 = 0) ∧ (vi2 = vi) ∧ (ln < ln2) ∧ (nd2 - nd ≤ 2 * at2 - (2 * at0 - tz tk0)) ∧ (at2 < lf2 ∨ li ≤ ln2) ∧ (nd ≤ r) ∧ (r < nd2) ∧ (wSt A' (sy2) pb (wP A' (sy2) pb (k)) (Vs) (r) (nd) (nd2) (sy) (sy2)) ∧ (NX A' (r))))) := by
  obtain ⟨d, rfl⟩ : ∃ d, dd = d + 1 := ⟨dd - 1, by omega⟩
  refine wk_of (e := jm301) rfl (Nat.le_of_ble_eq_true rfl) ?_
  show wj X d jm301 (0, [(0, .ref 66), (1, .int (i32 (lv)))], [], rV c0 c1 G A T) _
  have hF0 : Fr [9, 10, 11, 12, 13, 14, 15, 16, 17, 18, 19, 28, 29, 31] [6, 7, 8, 9, 10, 11, 12, 14, 15, 16, 17, 18, 19, 20, 21, 22, 23, 24, 28] G A G A := Fr_rf
  have hP0 : Pf nd A A := Pf_rf
  have hS0 : Fx sr (sy) A A := Fx_rf
  have hV0 : Fx [14] (vi) A A := Fx_rf
  have b_ln : (0 : Int) ≤ ln ∧ ln ≤ 3000 := e_ln ▸ hW.1 9
  have b_li : (0 : Int) ≤ li ∧ li ≤ 3000 := e_li ▸ hW.1 3
  have b_at0 : (0 : Int) ≤ at0 ∧ at0 ≤ 3002 := e_at0 ▸ hW.1 10
  have b_fk : (0 : Int) ≤ fk ∧ fk ≤ 6 := e_fk ▸ hW.1 16
  have b_nd : (0 : Int) ≤ nd ∧ nd ≤ 6999 := e_nd ▸ hW.1 31
  have b_sy : (0 : Int) ≤ sy ∧ sy ≤ 202 := e_sy ▸ hW.1 19
  have b_na : (0 : Int) ≤ na ∧ na ≤ 200 := e_na ▸ hW.1 28
  have b_vi : (0 : Int) ≤ vi ∧ vi ≤ 202 := e_vi ▸ hW.1 29
  have b_le : (0 : Int) ≤ le ∧ le ≤ 3000 := e_le ▸ hW.2 4 _
  have b_op0 : (-2147483648 : Int) ≤ op0 ∧ op0 ≤ 2147483647 := e_op0 ▸ hW.1 15
  have z_tk0 := tz_f tk0
  have b_tk0 : (0 : Int) ≤ tk0 ∧ tk0 ≤ 5 := e_tk0 ▸ hW.1 11
  refine jx_ld (pc' := 1) (l' := [(0, .ref 66), (1, .int (i32 (lv)))]) (st' := [.ref 66]) rfl (jl_aloadn rfl) ?_
  refine jx_ar (pc' := 3) (st' := [.int (i32 (30)), .ref 66]) rfl rfl rfl rfl ?_
  refine jx_ar (pc' := 4) (st' := [.int (i32 (0)), .int (i32 (30)), .ref 66]) rfl rfl rfl rfl ?_
  refine jx_ar (pc' := 5) (st' := [.int (i32 (0)), .int (i32 (0)), .int (i32 (30)), .ref 66]) rfl rfl rfl rfl ?_
  refine jx_ar (pc' := 6) (st' := [.int (i32 (0)), .int (i32 (0)), .int (i32 (0)), .int (i32 (30)), .ref 66]) rfl rfl rfl rfl ?_
  refine jx_ar (pc' := 7) (st' := [.int (i32 (0)), .int (i32 (0)), .int (i32 (0)), .int (i32 (0)), .int (i32 (30)), .ref 66]) rfl rfl rfl rfl ?_
  refine jx_vr (pc' := 10) (as := [.int (i32 (30)), .int (i32 (0)), .int (i32 (0)), .int (i32 (0)), .int (i32 (0))]) (st := []) rfl rfl rfl rfl ⟨rfl, rfl, Nat.le_of_ble_eq_true rfl⟩ rfl rfl (c_node (dd := d) (hd := by omega) (hW := hW) (kind := 30) (a := 0) (b := 0) (c := 0) (e := 0) (nd := nd) (e_nd := show G 31 = nd from (e_nd))  (h_kind := ⟨(by decide), (by decide)⟩) (h_a := ⟨(by decide), (by decide)⟩) (h_b := ⟨(by decide), (by decide)⟩) (h_c := ⟨(by decide), (by decide)⟩) (h_e := ⟨(by decide), (by decide)⟩)  (p_0 := by omega) (p_1 := by omega)) (fun o V' hq => ?_)
  obtain ⟨G358, A359, nd2_360, rfl, rfl, hW361, hF362, hQ363, e364, p365, p366, -⟩ := hq
  have hF368 := Fr_tr hF0 hF362 (Fr_sub (by decide)) (Fr_sub (by decide))
  have hP369 := Pf_tr hP0 hQ363 (by omega)
  have hS370 := Fx_f hS0 hF362 (by decide)
  have hV371 := Fx_f hV0 hF362 (by decide)
  have bnd2_360 : (0 : Int) ≤ nd2_360 ∧ nd2_360 ≤ 6999 := e364 ▸ hW361.1 31
  refine .inr ⟨_, rfl, ?_⟩
  refine jx_ld (pc' := 11) (l' := jSto1 [(0, .ref 66), (1, .int (i32 (lv)))] 2 (.int (i32 (nd)))) (st' := []) rfl rfl ?_
  obtain ⟨L372, eL372⟩ : ∃ q, q = jSto1 [(0, .ref 66), (1, .int (i32 (lv)))] 2 (.int (i32 (nd))) := ⟨_, rfl⟩
  rw [← eL372]
  have gL372_0 : jGet L372 0 = some (.ref 66) := eL372 ▸ jg_ne (by decide) (rfl : jGet [(0, .ref 66), (1, .int (i32 (lv)))] 0 = some (.ref 66)) rfl
  have gL372_1 : jGet L372 1 = some (.int (i32 (lv))) := eL372 ▸ jg_ne (by decide) (rfl : jGet [(0, .ref 66), (1, .int (i32 (lv)))] 1 = some (.int (i32 (lv)))) rfl
  have gL372_2 : jGet L372 2 = some (.int (i32 (nd))) := eL372 ▸ jg_eq
  refine jx_ld (pc' := 12) (l' := L372) (st' := [.ref 66]) rfl (jl_aloadn gL372_0) ?_
  refine jx_vr (pc' := 15) (as := []) (st := []) rfl rfl rfl rfl ⟨rfl, rfl, Nat.le_of_ble_eq_true rfl⟩ rfl rfl (c_next (dd := d) (hd := by omega) (hW := hW361)  (ln := ln) (e_ln := show G358 9 = ln from ((hF362.1 9 rfl).trans (e_ln))) (le := le) (e_le := show A359 4 (ln).toNat = le from (congrFun (hF362.2 4 rfl) _).trans (e_le)) (at0 := at0) (e_at0 := show G358 10 = at0 from ((hF362.1 10 rfl).trans (e_at0)))    (p_0 := by omega)) (fun o V' hq => ?_)
  obtain ⟨G373, A374, at2_375, tk2_376, rfl, rfl, hW377, hF378, e379, e380, p381, p382, p383, -⟩ := hq
  have hF385 := Fr_tr hF368 hF378 (Fr_sub (by decide)) (Fr_sub (by decide))
  have hP386 := Pf_f hP369 hF378 (by decide)
  have hS387 := Fx_f hS370 hF378 (by decide)
  have hV388 := Fx_f hV371 hF378 (by decide)
  have sf389 : ND A374 (nd) (30) (0) (0) (0) (0) (0) (0) := ND_ag (by omega) (Ag_fr hF378 (by decide)) p366
  have bat2_375 : (0 : Int) ≤ at2_375 ∧ at2_375 ≤ 3002 := e379 ▸ hW377.1 10
  have ztk2_376 := tz_b tk2_376
  have btk2_376 : (0 : Int) ≤ tk2_376 ∧ tk2_376 ≤ 5 := e380 ▸ hW377.1 11
  refine .inl ⟨rfl, ?_⟩
  refine jx_ld (pc' := 16) (l' := L372) (st' := [.ref 66]) rfl (jl_aloadn gL372_0) ?_
  refine jx_vr (pc' := 19) (as := []) (st := []) rfl rfl rfl rfl ⟨rfl, rfl, Nat.le_of_ble_eq_true rfl⟩ rfl rfl (c_endLine (dd := d) (hd := by omega) (hW := hW377)  (ln := ln) (e_ln := show G373 9 = ln from ((hF378.1 9 rfl).trans ((hF362.1 9 rfl).trans (e_ln)))) (li := li) (e_li := show G373 3 = li from ((hF378.1 3 rfl).trans ((hF362.1 3 rfl).trans (e_li)))) (fk := fk) (e_fk := show G373 16 = fk from ((hF378.1 16 rfl).trans ((hF362.1 16 rfl).trans (e_fk)))) (tk0 := tk2_376) (e_tk0 := show G373 11 = tk2_376 from (e380))    (p_0 := by omega)) (fun o V' hq => ?_)
  obtain ⟨G390, A391, ln2_392, fk2_393, rfl, rfl, hW394, hF395, e396, e397, q398⟩ := hq
  have hF399 := Fr_tr hF385 hF395 (Fr_sub (by decide)) (Fr_sub (by decide))
  have hP400 := Pf_f hP386 hF395 (by decide)
  have hS401 := Fx_f hS387 hF395 (by decide)
  have hV402 := Fx_f hV388 hF395 (by decide)
  have sf403 : ND A391 (nd) (30) (0) (0) (0) (0) (0) (0) := ND_ag (by omega) (Ag_fr hF395 (by decide)) sf389
  have bln2_392 : (0 : Int) ≤ ln2_392 ∧ ln2_392 ≤ 3000 := e396 ▸ hW394.1 9
  have bfk2_393 : (0 : Int) ≤ fk2_393 ∧ fk2_393 ≤ 6 := e397 ▸ hW394.1 16
  refine .inl ⟨rfl, ?_⟩
  rcases q398 with ⟨a404, a405, a406, a407, a408⟩ | ⟨a409, a410⟩
  · have _q : True := trivial
    have b411 : (0 : Int) ≤ A 3 (ln2_392).toNat ∧ A 3 (ln2_392).toNat ≤ 3000 := hW.2 3 _
    have lt412 : ln2_392 < li → le < A 3 (ln2_392).toNat := fun hh => LT_nx (LT_ext (((hF395.1 3 rfl).trans ((hF378.1 3 rfl).trans (hF362.1 3 rfl)))) (((hF395.2 3 rfl).trans ((hF378.2 3 rfl).trans (hF362.2 3 rfl)))) (((hF395.2 4 rfl).trans ((hF378.2 4 rfl).trans (hF362.2 4 rfl)))) i_LT) (show G390 3 = li from ((hF395.1 3 rfl).trans ((hF378.1 3 rfl).trans ((hF362.1 3 rfl).trans (e_li))))) (show A391 4 (ln).toNat = le from (congrFun ((hF395.2 4 rfl).trans ((hF378.2 4 rfl).trans (hF362.2 4 rfl))) _).trans (e_le)) (show A391 3 (ln2_392).toNat = A 3 (ln2_392).toNat from (congrFun ((hF395.2 3 rfl).trans ((hF378.2 3 rfl).trans (hF362.2 3 rfl))) _)) (show ln2_392 = ln + 1 by omega) (by omega) hh
    refine jx_ar (pc' := 20) (st' := [.int (i32 (0))]) rfl rfl rfl rfl ?_
    refine jx_ld (pc' := 21) (l' := jSto1 L372 3 (.int (i32 (0)))) (st' := []) rfl rfl ?_
    obtain ⟨L413, eL413⟩ : ∃ q, q = jSto1 L372 3 (.int (i32 (0))) := ⟨_, rfl⟩
    rw [← eL413]
    have gL413_0 : jGet L413 0 = some (.ref 66) := eL413 ▸ jg_ne (by decide) gL372_0 rfl
    have gL413_1 : jGet L413 1 = some (.int (i32 (lv))) := eL413 ▸ jg_ne (by decide) gL372_1 rfl
    have gL413_2 : jGet L413 2 = some (.int (i32 (nd))) := eL413 ▸ jg_ne (by decide) gL372_2 rfl
    have gL413_3 : jGet L413 3 = some (.int (i32 (0))) := eL413 ▸ jg_eq
    exact c_readIf_at_21 (X := X) (k := k) (hP := hP) (d := d) (Vs := Vs) (sb := sb) (pb := pb) (hvb := hvb) (c0 := c0) (c1 := c1) (G := G) (A := A) (T := T) (lv := lv) (ln := ln) (li := li) (at0 := at0) (fk := fk) (nd := nd) (sy := sy) (na := na) (vi := vi) (le := le) (op0 := op0) (tk0 := tk0) (hd := hd) (hW := hW) (e_ln := e_ln) (e_li := e_li) (e_at0 := e_at0) (e_fk := e_fk) (e_nd := e_nd) (e_sy := e_sy) (e_na := e_na) (e_vi := e_vi) (e_le := e_le) (e_op0 := e_op0) (e_tk0 := e_tk0) (i_LT := i_LT) (i_SV := i_SV) (i_PQ := i_PQ) (h_lv := h_lv) (p_0 := p_0) (p_1 := p_1) (p_2 := p_2) (p_3 := p_3) (p_4 := p_4) (p_5 := p_5) (p_6 := p_6) (p_7 := p_7) (p_8 := p_8) (p_9 := p_9) (p_10 := p_10) _ L413 G390 A391 (nd) (0) (ln2_392) (at2_375) (fk2_393) (nd2_360) (sy) (na) (vi) (A 3 (ln2_392).toNat) rfl gL413_0 gL413_1 gL413_2 gL413_3 hW394 hF399 hP400 hS401 hV402 ((e396)) (((hF395.1 10 rfl).trans (e379))) ((e397)) (((hF395.1 31 rfl).trans ((hF378.1 31 rfl).trans (e364)))) (((hF395.1 19 rfl).trans ((hF378.1 19 rfl).trans ((hF362.1 19 rfl).trans (e_sy))))) (((hF395.1 28 rfl).trans ((hF378.1 28 rfl).trans ((hF362.1 28 rfl).trans (e_na))))) (((hF395.1 29 rfl).trans ((hF378.1 29 rfl).trans ((hF362.1 29 rfl).trans (e_vi))))) ((congrFun ((hF395.2 3 rfl).trans ((hF378.2 3 rfl).trans (hF362.2 3 rfl))) _)) (by omega) (by omega) (by omega) (by omega) (by omega) (by omega) (by omega) (by omega) (by omega) (by omega) (by omega) (by omega) (by omega) (by omega) (by omega) (by omega) ((ND_sf sf403)) ((CI_nil (ND_f0 sf403) (by omega) (by omega)))
  · have _q : True := trivial
    refine jx_ar (pc' := 20) (st' := [.int (i32 (0))]) rfl rfl rfl rfl ?_
    refine jx_ld (pc' := 21) (l' := jSto1 L372 3 (.int (i32 (0)))) (st' := []) rfl rfl ?_
    obtain ⟨L414, eL414⟩ : ∃ q, q = jSto1 L372 3 (.int (i32 (0))) := ⟨_, rfl⟩
    rw [← eL414]
    have gL414_0 : jGet L414 0 = some (.ref 66) := eL414 ▸ jg_ne (by decide) gL372_0 rfl
    have gL414_1 : jGet L414 1 = some (.int (i32 (lv))) := eL414 ▸ jg_ne (by decide) gL372_1 rfl
    have gL414_2 : jGet L414 2 = some (.int (i32 (nd))) := eL414 ▸ jg_ne (by decide) gL372_2 rfl
    have gL414_3 : jGet L414 3 = some (.int (i32 (0))) := eL414 ▸ jg_eq
    refine jx_ld (pc' := 22) (l' := L414) (st' := [.ref 66]) rfl (jl_aloadn gL414_0) ?_
    refine jx_ld (pc' := 23) (l' := L414) (st' := [.int (i32 (lv)), .ref 66]) rfl (jl_iloadn gL414_1) ?_
    have b415 : (-1 : Int) ≤ A 5 (ln2_392).toNat ∧ A 5 (ln2_392).toNat ≤ 15 := hW.2 5 _
    refine jx_vr (pc' := 26) (as := [.int (i32 (lv))]) (st := []) rfl rfl rfl rfl ⟨rfl, rfl, Nat.le_of_ble_eq_true rfl⟩ rfl rfl (c_isBelow (dd := d) (hd := by omega) (hW := hW394) (lv := lv) (ln := ln2_392) (e_ln := show G390 9 = ln2_392 from (e396)) (li := li) (e_li := show G390 3 = li from ((hF395.1 3 rfl).trans ((hF378.1 3 rfl).trans ((hF362.1 3 rfl).trans (e_li))))) (fk := fk2_393) (e_fk := show G390 16 = fk2_393 from (e397)) (ll := A 5 (ln2_392).toNat) (e_ll := show A391 5 (ln2_392).toNat = A 5 (ln2_392).toNat from (congrFun ((hF395.2 5 rfl).trans ((hF378.2 5 rfl).trans (hF362.2 5 rfl))) _))  (h_lv := ⟨(Int.le_trans (by decide : (-2147483648 : Int) ≤ -2147483648) h_lv.1), (Int.le_trans h_lv.2 (by decide : (2147483647 : Int) ≤ 2147483647))⟩)  (p_0 := by omega)) (fun o V' hq => ?_)
    obtain ⟨G416, A417, r418, fk2_419, rfl, rfl, hW420, hF421, b422, e423, q424⟩ := hq
    have hF425 := Fr_tr hF399 hF421 (Fr_sub (by decide)) (Fr_sub (by decide))
    have hP426 := Pf_f hP400 hF421 (by decide)
    have hS427 := Fx_f hS401 hF421 (by decide)
    have hV428 := Fx_f hV402 hF421 (by decide)
    have sf429 : ND A417 (nd) (30) (0) (0) (0) (0) (0) (0) := ND_ag (by omega) (Ag_fr hF421 (by decide)) sf403
    have bfk2_419 : (0 : Int) ≤ fk2_419 ∧ fk2_419 ≤ 6 := e423 ▸ hW420.1 16
    refine .inr ⟨_, rfl, ?_⟩
    rcases q424 with ⟨rfl, a430, a431, a432, a433⟩ | ⟨rfl, a434⟩ | ⟨rfl, a435, a436, a437⟩
    · have _q : True := trivial
      exfalso
      omega
    · have _q : True := trivial
      refine jx_if_eq (pc' := 29) (tg := 112) rfl rfl rfl (by decide) (by decide) (fun h438 => ?_) (fun h438 => ?_)
      · have _q := h438
        refine jx_ld (pc' := 113) (l' := L414) (st' := [.ref 66]) rfl (jl_aloadn gL414_0) ?_
        refine jx_vr (pc' := 116) (as := []) (st := []) rfl rfl rfl rfl ⟨rfl, rfl, Nat.le_of_ble_eq_true rfl⟩ rfl rfl (c_bad (dd := d) (hd := by omega) (hW := hW420)  (fk := fk2_419) (e_fk := show G416 16 = fk2_419 from (e423))    ) (fun o V' hq => ?_)
        obtain ⟨r439, rfl, rfl, b440, q441⟩ := hq
        refine .inr ⟨_, rfl, ?_⟩
        rcases q441 with ⟨rfl, a442⟩ | ⟨rfl, a443⟩
        · have _q : True := trivial
          refine jx_if_ne (pc' := 119) (tg := 131) rfl rfl rfl (by decide) (by decide) (fun h444 => ?_) (fun h444 => ?_)
          · have _q := h444
            refine jx_ld (pc' := 132) (l' := L414) (st' := [.int (i32 (nd))]) rfl (jl_iloadn gL414_2) ?_
            refine jx_rt (v := some (.int (i32 (nd)))) rfl rfl rfl rfl rfl rfl ?_
            exact ⟨_, _, _, ln2_392, at2_375, fk2_419, nd2_360, sy, na, vi, A 3 (ln2_392).toNat, rfl, rfl, hW420, hF425, hP426, hS427, hV428, by omega, ((hF421.1 9 rfl).trans (e396)), ((hF421.1 10 rfl).trans ((hF395.1 10 rfl).trans (e379))), (e423), ((hF421.1 31 rfl).trans ((hF395.1 31 rfl).trans ((hF378.1 31 rfl).trans (e364)))), ((hF421.1 19 rfl).trans ((hF395.1 19 rfl).trans ((hF378.1 19 rfl).trans ((hF362.1 19 rfl).trans (e_sy))))), ((hF421.1 28 rfl).trans ((hF395.1 28 rfl).trans ((hF378.1 28 rfl).trans ((hF362.1 28 rfl).trans (e_na))))), ((hF421.1 29 rfl).trans ((hF395.1 29 rfl).trans ((hF378.1 29 rfl).trans ((hF362.1 29 rfl).trans (e_vi))))), (congrFun ((hF421.2 3 rfl).trans ((hF395.2 3 rfl).trans ((hF378.2 3 rfl).trans (hF362.2 3 rfl)))) _), by omega, by omega, by omega, by omega, by omega, by omega, by omega, by omega, by omega, by omega, by first | exact Or.inl (⟨by omega, by omega⟩)⟩
          · have _q := h444
            exact absurd h444 (by omega)
        · have _q : True := trivial
          exfalso
          omega
      · have _q := h438
        exact absurd h438 (by omega)
    · have _q : True := trivial
      exfalso
      omega
