set_option maxRecDepth 20000 in
set_option maxHeartbeats 4000000 in
theorem c_readIf_w_at_21 {X : jX} {k : Nat} (hP : RPw X k) {d : Nat} {Vs : Nat → Prop} {sb pb : Int} (hvb : VB Vs sb) {c0 c1 : jC} {G : Nat → Int} {A : Nat → Nat → Int} {T : jH} {lv : Int} {ln li at0 fk nd sy na vi le op0 tk0 ec : Int} (hd : 8 * k + 82 ≤ d + 1) (hW : Wk G A) (e_ln : G 9 = ln) (e_li : G 3 = li) (e_at0 : G 10 = at0) (e_fk : G 16 = fk) (e_nd : G 31 = nd) (e_sy : G 19 = sy) (e_na : G 28 = na) (e_vi : G 29 = vi) (e_le : A 4 (ln).toNat = le) (e_op0 : G 15 = op0) (e_tk0 : G 11 = tk0) (e_ec : ecn A (G 31) = ec) (i_LT : LT G A) (i_SV : SV Vs sb G A) (i_PQ : PQ Vs sb pb G A) (h_lv : (-2147483648 : Int) ≤ lv ∧ lv ≤ 2147483647) (p_0 : 0 ≤ lv ∧ lv ≤ 15) (p_1 : 18 - lv ≤ ((k + 1 : Nat) : Int)) (p_2 : fk = 0) (p_3 : ln < li) (p_4 : at0 ≤ le) (p_5 : op0 = 0) (p_6 : nd ≤ 2 * at0 - tz tk0 + 30) (p_7 : sy ≤ na + 2) (p_8 : vi ≤ sy) (p_9 : sb = sy) (p_10 : 1 ≤ tk0) : ∀ (m : Nat) (L : jL) (Gx : Nat → Int) (Ax : Nat → Nat → Int) (n last ln1 at1 fk1 nd1 sy1 na1 vi1 lf1 ec1 : Int), (li - ln1).toNat = m → jGet L 0 = some (.ref 66) → jGet L 1 = some (.int (i32 (lv))) → jGet L 2 = some (.int (i32 n)) → jGet L 3 = some (.int (i32 last)) → Wk Gx Ax → Fr [9, 10, 11, 12, 13, 14, 15, 16, 17, 18, 19, 28, 29, 31] [6, 7, 8, 9, 10, 11, 12, 14, 15, 16, 17, 18, 19, 20, 21, 22, 23, 24, 28] G A Gx Ax → Pf nd A Ax → Fx sr (sy) A Ax → Fx [14] (vi) A Ax → Gx 9 = ln1 → Gx 10 = at1 → Gx 16 = fk1 → Gx 31 = nd1 → Gx 19 = sy1 → Gx 28 = na1 → Gx 29 = vi1 → Ax 3 (ln1).toNat = lf1 → ecn Ax (Gx 31) = ec1 → ((-2147483648 : Int) ≤ n ∧ n ≤ 2147483647) → ((-2147483648 : Int) ≤ last ∧ last ≤ 2147483647) → (fk1 = 0) → (at0 ≤ at1) → (nd ≤ n ∧ n ≤ 6998 ∧ n < nd1) → (sy ≤ sy1) → (sy1 ≤ na1 + 2) → (vi1 = vi) → (ln < ln1) → (ln1 ≤ li) → (nd1 - nd ≤ 2 * at1 - (2 * at0 - tz tk0)) → (at1 < lf1 ∨ li ≤ ln1) → (n = nd) → (0 ≤ last ∧ last ≤ 6998) → (last = 0 ∨ n < last) → (last < nd1) → (ND Ax (n) (30) (0) (0) (0) (0) (Ax 21 (n).toNat) (0)) → (CI 1 Ax (sy1) pb (k) (Vs) (n) (last) (n + 1) (nd1) (sy) (sy1)) → (nd + 5 * ec ≤ n ∧ n ≤ 6998 ∧ n < nd1) → (nd1 - nd + 5 * (ec1 - ec) ≤ 2 * at1 - (2 * at0 - tz tk0)) → wj X d jm301 (21, L, [], rV c0 c1 Gx Ax T) (fun o V' => ∃ (G' : Nat → Int) (A' : Nat → Nat → Int) (r : Int) (ln2 : Int) (at2 : Int) (fk2 : Int) (nd2 : Int) (sy2 : Int) (na2 : Int) (vi2 : Int) (lf2 : Int) (ec2 : Int), V' = rV c0 c1 G' A' T ∧ o = .inl (some (.int (i32 r))) ∧ Wk G' A' ∧ Fr [9, 10, 11, 12, 13, 14, 15, 16, 17, 18, 19, 28, 29, 31] [6, 7, 8, 9, 10, 11, 12, 14, 15, 16, 17, 18, 19, 20, 21, 22, 23, 24, 28] G A G' A' ∧ Pf nd A A' ∧ Fx sr (sy) A A' ∧ Fx [14] (vi) A A' ∧ ((-2147483648 : Int) ≤ r ∧ r ≤ 2147483647) ∧ G' 9 = ln2 ∧ G' 10 = at2 ∧ G' 16 = fk2 ∧ G' 31 = nd2 ∧ G' 19 = sy2 ∧ G' 28 = na2 ∧ G' 29 = vi2 ∧ A' 3 (ln2).toNat = lf2 ∧ ecn A' (G' 31) = ec2 ∧ (at0 ≤ at2) ∧ (nd ≤ nd2) ∧ (sy ≤ sy2) ∧ (sy2 ≤ na2 + 2) ∧ (vi ≤ vi2) ∧ (vi2 ≤ vi + 1) ∧ (0 ≤ r) ∧ (r ≤ 6999) ∧ (ln ≤ ln2) ∧ (ln2 ≤ li) ∧ (((1 ≤ fk2) ∧ (nd2 - nd ≤ 2 * at2 - (2 * at0 - tz tk0) + 14)) ∨ ((fk2 = 0) ∧ (vi2 = vi) ∧ (ln < ln2) ∧ (nd2 - nd ≤ 2 * at2 - (2 * at0 - tz tk0)) ∧ (at2 < lf2 ∨ li ≤ ln2) ∧ (nd ≤ r) ∧ (r < nd2) ∧ (wSt A' (sy2) pb (wP A' (sy2) pb (k)) (Vs) (r) (nd) (nd2) (sy) (sy2)) ∧ (NX A' (r)) ∧ (nd2 - nd + 5 * (ec2 - ec) ≤ 2 * at2 - (2 * at0 - tz tk0)) ∧ (nd + 5 * ec ≤ r)))) := by
  have hF0 : Fr [9, 10, 11, 12, 13, 14, 15, 16, 17, 18, 19, 28, 29, 31] [6, 7, 8, 9, 10, 11, 12, 14, 15, 16, 17, 18, 19, 20, 21, 22, 23, 24, 28] G A G A := Fr_rf
  have hP0 : Pf nd A A := Pf_rf
  have hS0 : Fx sr (sy) A A := Fx_rf
  have hV0 : Fx [14] (vi) A A := Fx_rf
  have b_ln : (0 : Int) ≤ ln ∧ ln ≤ 3000 := e_ln ▸ hW.1 9
  have b_li : (0 : Int) ≤ li ∧ li ≤ 3000 := e_li ▸ hW.1 3
  have b_at0 : (0 : Int) ≤ at0 ∧ at0 ≤ 3002 := e_at0 ▸ hW.1 10
  have b_fk : (0 : Int) ≤ fk ∧ fk ≤ 6 := e_fk ▸ hW.1 16
  have b_nd : (0 : Int) ≤ nd ∧ nd ≤ 6999 := e_nd ▸ hW.1 31
  have b_sy : (0 : Int) ≤ sy ∧ sy ≤ 202 := e_sy ▸ hW.1 19
  have b_na : (0 : Int) ≤ na ∧ na ≤ 200 := e_na ▸ hW.1 28
  have b_vi : (0 : Int) ≤ vi ∧ vi ≤ 202 := e_vi ▸ hW.1 29
  have b_le : (0 : Int) ≤ le ∧ le ≤ 3000 := e_le ▸ hW.2 4 _
  have b_op0 : (-2147483648 : Int) ≤ op0 ∧ op0 ≤ 2147483647 := e_op0 ▸ hW.1 15
  have z_tk0 := tz_f tk0
  have b_tk0 : (0 : Int) ≤ tk0 ∧ tk0 ≤ 5 := e_tk0 ▸ hW.1 11
  intro m
  induction m using Nat.strongRecOn with
  | ind m ih21 =>
    intro L Gx Ax n last ln1 at1 fk1 nd1 sy1 na1 vi1 lf1 ec1 hm gL_0 gL_1 gL_2 gL_3 hWx hFx hPx hSx hVx ex_ln1 ex_at1 ex_fk1 ex_nd1 ex_sy1 ex_na1 ex_vi1 ex_lf1 ex_ec1 rx_n rx_last iv_0 iv_1 iv_2 iv_3 iv_4 iv_5 iv_6 iv_7 iv_8 iv_9 iv_10 iv_11 iv_12 iv_13 iv_14 iv_15 iv_16 iv_17
    have b_ln1 : (0 : Int) ≤ ln1 ∧ ln1 ≤ 3000 := ex_ln1 ▸ hWx.1 9
    have b_at1 : (0 : Int) ≤ at1 ∧ at1 ≤ 3002 := ex_at1 ▸ hWx.1 10
    have b_fk1 : (0 : Int) ≤ fk1 ∧ fk1 ≤ 6 := ex_fk1 ▸ hWx.1 16
    have b_nd1 : (0 : Int) ≤ nd1 ∧ nd1 ≤ 6999 := ex_nd1 ▸ hWx.1 31
    have b_sy1 : (0 : Int) ≤ sy1 ∧ sy1 ≤ 202 := ex_sy1 ▸ hWx.1 19
    have b_na1 : (0 : Int) ≤ na1 ∧ na1 ≤ 200 := ex_na1 ▸ hWx.1 28
    have b_vi1 : (0 : Int) ≤ vi1 ∧ vi1 ≤ 202 := ex_vi1 ▸ hWx.1 29
    refine jx_ld (pc' := 22) (l' := L) (st' := [.ref 66]) rfl (jl_aloadn gL_0) ?_
    refine jx_ld (pc' := 23) (l' := L) (st' := [.int (i32 (lv)), .ref 66]) rfl (jl_iloadn gL_1) ?_
    have b1 : (-1 : Int) ≤ A 5 (ln1).toNat ∧ A 5 (ln1).toNat ≤ 15 := hW.2 5 _
    refine jx_vr (pc' := 26) (as := [.int (i32 (lv))]) (st := []) rfl rfl rfl rfl ⟨rfl, rfl, Nat.le_of_ble_eq_true rfl⟩ rfl rfl (c_isBelow (dd := d) (hd := by omega) (hW := hWx) (lv := lv) (ln := ln1) (e_ln := show Gx 9 = ln1 from (ex_ln1)) (li := li) (e_li := show Gx 3 = li from ((hFx.1 3 rfl).trans (e_li))) (fk := fk1) (e_fk := show Gx 16 = fk1 from (ex_fk1)) (ll := A 5 (ln1).toNat) (e_ll := show Ax 5 (ln1).toNat = A 5 (ln1).toNat from (congrFun (hFx.2 5 rfl) _))  (h_lv := ⟨(Int.le_trans (by decide : (-2147483648 : Int) ≤ -2147483648) h_lv.1), (Int.le_trans h_lv.2 (by decide : (2147483647 : Int) ≤ 2147483647))⟩)  (p_0 := by omega)) (fun o V' hq => ?_)
    obtain ⟨G2, A3, r4, fk2_5, rfl, rfl, hW6, hF7, b8, e9, q10⟩ := hq
    have hF11 := Fr_tr hFx hF7 (Fr_sub (by decide)) (Fr_sub (by decide))
    have hP12 := Pf_f hPx hF7 (by decide)
    have hS13 := Fx_f hSx hF7 (by decide)
    have hV14 := Fx_f hVx hF7 (by decide)
    have sf15 : ND A3 (n) (30) (0) (0) (0) (0) (Ax 21 (n).toNat) (0) := ND_ag (by omega) (Ag_fr hF7 (by decide)) iv_14
    have sf16 : CI 1 A3 (sy1) pb (k) (Vs) (n) (last) (n + 1) (nd1) (sy) (sy1) := CI_ag (by omega) (by omega) (Sg_fr hF7 (by decide)) (Qg_fr hF7 (by decide)) (Ag_fr hF7 (by decide)) (congrFun (hF7.2 21 rfl) _) iv_15
    have ec17 : ecn A3 (G2 31) = ec1 := (ecn_f (hF7.2 15 rfl) (hF7.1 31 rfl)).trans ex_ec1
    have bfk2_5 : (0 : Int) ≤ fk2_5 ∧ fk2_5 ≤ 6 := e9 ▸ hW6.1 16
    refine .inr ⟨_, rfl, ?_⟩
    rcases q10 with ⟨rfl, a18, a19, a20, a21⟩ | ⟨rfl, a22⟩ | ⟨rfl, a23, a24, a25⟩
    · have _q : True := trivial
      have b26 : (0 : Int) ≤ A 4 (ln1).toNat ∧ A 4 (ln1).toNat ≤ 3000 := hW.2 4 _
      have lt27 : lf1 < A 4 (ln1).toNat := LT_at (LT_ext (((hF7.1 3 rfl).trans (hFx.1 3 rfl))) (((hF7.2 3 rfl).trans (hFx.2 3 rfl))) (((hF7.2 4 rfl).trans (hFx.2 4 rfl))) i_LT) (show G2 3 = li from ((hF7.1 3 rfl).trans ((hFx.1 3 rfl).trans (e_li)))) (show A3 3 (ln1).toNat = lf1 from (congrFun (hF7.2 3 rfl) _).trans (ex_lf1)) (show A3 4 (ln1).toNat = A 4 (ln1).toNat from (congrFun ((hF7.2 4 rfl).trans (hFx.2 4 rfl)) _)) (by omega) (by omega)
      refine jx_if_eq (pc' := 29) (tg := 112) rfl rfl rfl (by decide) (by decide) (fun h28 => ?_) (fun h28 => ?_)
      · have _q := h28
        exact absurd h28 (by omega)
      · have _q := h28
        refine jx_ld (pc' := 30) (l' := L) (st' := [.ref 66]) rfl (jl_aloadn gL_0) ?_
        refine jx_vr (pc' := 33) (as := []) (st := []) rfl rfl rfl rfl ⟨rfl, rfl, Nat.le_of_ble_eq_true rfl⟩ rfl rfl (c_openLine (dd := d) (hd := by omega) (hW := hW6)  (ln := ln1) (e_ln := show G2 9 = ln1 from ((hF7.1 9 rfl).trans (ex_ln1))) (le := A 4 (ln1).toNat) (e_le := show A3 4 (ln1).toNat = A 4 (ln1).toNat from (congrFun ((hF7.2 4 rfl).trans (hFx.2 4 rfl)) _)) (lf := lf1) (e_lf := show A3 3 (ln1).toNat = lf1 from (congrFun (hF7.2 3 rfl) _).trans (ex_lf1))    (p_0 := by omega)) (fun o V' hq => ?_)
        obtain ⟨G29, A30, at2_31, tk2_32, op2_33, rfl, rfl, hW34, hF35, e36, e37, e38, p39, p40, p41, p42, -⟩ := hq
        have hF44 := Fr_tr hF11 hF35 (Fr_sub (by decide)) (Fr_sub (by decide))
        have hP45 := Pf_f hP12 hF35 (by decide)
        have hS46 := Fx_f hS13 hF35 (by decide)
        have hV47 := Fx_f hV14 hF35 (by decide)
        have sf48 : ND A30 (n) (30) (0) (0) (0) (0) (Ax 21 (n).toNat) (0) := ND_ag (by omega) (Ag_fr hF35 (by decide)) sf15
        have sf49 : CI 1 A30 (sy1) pb (k) (Vs) (n) (last) (n + 1) (nd1) (sy) (sy1) := CI_ag (by omega) (by omega) (Sg_fr hF35 (by decide)) (Qg_fr hF35 (by decide)) (Ag_fr hF35 (by decide)) (congrFun (hF35.2 21 rfl) _) sf16
        have ec50 : ecn A30 (G29 31) = ec1 := (ecn_f (hF35.2 15 rfl) (hF35.1 31 rfl)).trans ec17
        have bat2_31 : (0 : Int) ≤ at2_31 ∧ at2_31 ≤ 3002 := e36 ▸ hW34.1 10
        have ztk2_32 := tz_b tk2_32
        have btk2_32 : (0 : Int) ≤ tk2_32 ∧ tk2_32 ≤ 5 := e37 ▸ hW34.1 11
        have bop2_33 : (-2147483648 : Int) ≤ op2_33 ∧ op2_33 ≤ 2147483647 := e38 ▸ hW34.1 15
        refine .inl ⟨rfl, ?_⟩
        have pz51 : lf1 + tz tk2_32 ≤ at2_31 := by omega
        refine jx_ld (pc' := 34) (l' := L) (st' := [.ref 66]) rfl (jl_aloadn gL_0) ?_
        refine jx_ar (pc' := 36) (st' := [.int (i32 (34)), .ref 66]) rfl rfl rfl rfl ?_
        refine jx_ar (pc' := 37) (st' := [.int (i32 (0)), .int (i32 (34)), .ref 66]) rfl rfl rfl rfl ?_
        refine jx_ar (pc' := 38) (st' := [.int (i32 (0)), .int (i32 (0)), .int (i32 (34)), .ref 66]) rfl rfl rfl rfl ?_
        refine jx_ar (pc' := 39) (st' := [.int (i32 (0)), .int (i32 (0)), .int (i32 (0)), .int (i32 (34)), .ref 66]) rfl rfl rfl rfl ?_
        refine jx_ar (pc' := 40) (st' := [.int (i32 (0)), .int (i32 (0)), .int (i32 (0)), .int (i32 (0)), .int (i32 (34)), .ref 66]) rfl rfl rfl rfl ?_
        refine jx_vr (pc' := 43) (as := [.int (i32 (34)), .int (i32 (0)), .int (i32 (0)), .int (i32 (0)), .int (i32 (0))]) (st := []) rfl rfl rfl rfl ⟨rfl, rfl, Nat.le_of_ble_eq_true rfl⟩ rfl rfl (c_node_o (dd := d) (hd := by omega) (hW := hW34) (kind := 34) (a := 0) (b := 0) (c := 0) (e := 0) (nd := nd1) (e_nd := show G29 31 = nd1 from ((hF35.1 31 rfl).trans ((hF7.1 31 rfl).trans (ex_nd1)))) (ec := ec1) (e_ec := show ecn A30 (G29 31) = ec1 from ec50)  (h_kind := ⟨(by decide), (by decide)⟩) (h_a := ⟨(by decide), (by decide)⟩) (h_b := ⟨(by decide), (by decide)⟩) (h_c := ⟨(by decide), (by decide)⟩) (h_e := ⟨(by decide), (by decide)⟩)  (p_0 := by omega) (p_1 := by omega) (p_2 := by omega)) (fun o V' hq => ?_)
        obtain ⟨G52, A53, nd2_54, ec2_55, rfl, rfl, hW56, hF57, hQ58, e59, e60, p61, p62, p63, -⟩ := hq
        have hF65 := Fr_tr hF44 hF57 (Fr_sub (by decide)) (Fr_sub (by decide))
        have hP66 := Pf_tr hP45 hQ58 (by omega)
        have hS67 := Fx_f hS46 hF57 (by decide)
        have hV68 := Fx_f hV47 hF57 (by decide)
        have sf69 : ND A53 (n) (30) (0) (0) (0) (0) (Ax 21 (n).toNat) (0) := ND_ag (by omega) (Ag_pf hQ58 (by omega)) sf48
        have sf70 : CI 1 A53 (sy1) pb (k) (Vs) (n) (last) (n + 1) (nd1) (sy) (sy1) := CI_ag (by omega) (by omega) (Sg_fr hF57 (by decide)) (Qg_fr hF57 (by decide)) (Ag_pf hQ58 (by omega)) (hQ58 21 _ rfl (by omega)) sf49
        have bnd2_54 : (0 : Int) ≤ nd2_54 ∧ nd2_54 ≤ 6999 := e59 ▸ hW56.1 31
        refine .inr ⟨_, rfl, ?_⟩
        refine jx_ld (pc' := 45) (l' := jSto1 L 4 (.int (i32 (nd1)))) (st' := []) rfl rfl ?_
        obtain ⟨L71, eL71⟩ : ∃ q, q = jSto1 L 4 (.int (i32 (nd1))) := ⟨_, rfl⟩
        rw [← eL71]
        have gL71_0 : jGet L71 0 = some (.ref 66) := eL71 ▸ jg_ne (by decide) gL_0 rfl
        have gL71_1 : jGet L71 1 = some (.int (i32 (lv))) := eL71 ▸ jg_ne (by decide) gL_1 rfl
        have gL71_2 : jGet L71 2 = some (.int (i32 (n))) := eL71 ▸ jg_ne (by decide) gL_2 rfl
        have gL71_3 : jGet L71 3 = some (.int (i32 (last))) := eL71 ▸ jg_ne (by decide) gL_3 rfl
        have gL71_4 : jGet L71 4 = some (.int (i32 (nd1))) := eL71 ▸ jg_eq
        refine jx_ld (pc' := 46) (l' := L71) (st' := [.ref 66]) rfl (jl_aloadn gL71_0) ?_
        refine jr_get (pc' := 49) (i := 34) (v := .ref 84) rfl rfl (by decide) rfl rfl ?_
        refine jx_ld (pc' := 51) (l' := L71) (st' := [.int (i32 (nd1)), .ref 84]) rfl (jl_iload gL71_4) ?_
        refine jx_ld (pc' := 52) (l' := L71) (st' := [.ref 66, .int (i32 (nd1)), .ref 84]) rfl (jl_aloadn gL71_0) ?_
        refine jx_vr (pc' := 55) (as := []) (st := [.int (i32 (nd1)), .ref 84]) rfl rfl rfl rfl ⟨rfl, rfl, Nat.le_of_ble_eq_true rfl⟩ rfl rfl (REw_all X 9 (dd := d) (hd := by omega) (hW := hW56)  (ln := ln1) (e_ln := show G52 9 = ln1 from ((hF57.1 9 rfl).trans ((hF35.1 9 rfl).trans ((hF7.1 9 rfl).trans (ex_ln1))))) (le := A 4 (ln1).toNat) (e_le := show A53 4 (ln1).toNat = A 4 (ln1).toNat from (congrFun ((hF57.2 4 rfl).trans ((hF35.2 4 rfl).trans ((hF7.2 4 rfl).trans (hFx.2 4 rfl)))) _)) (at0 := at2_31) (e_at0 := show G52 10 = at2_31 from ((hF57.1 10 rfl).trans (e36))) (fk := fk2_5) (e_fk := show G52 16 = fk2_5 from ((hF57.1 16 rfl).trans ((hF35.1 16 rfl).trans (e9)))) (op0 := op2_33) (e_op0 := show G52 15 = op2_33 from ((hF57.1 15 rfl).trans (e38))) (nd := nd2_54) (e_nd := show G52 31 = nd2_54 from (e59)) (tk0 := tk2_32) (e_tk0 := show G52 11 = tk2_32 from ((hF57.1 11 rfl).trans (e37))) (ec := ec2_55) (e_ec := show ecn A53 (G52 31) = ec2_55 from e60) (i_SV := (SV_fx i_SV e_vi (show G52 29 = vi1 from ((hF57.1 29 rfl).trans ((hF35.1 29 rfl).trans ((hF7.1 29 rfl).trans (ex_vi1))))) (by omega) hV68))   (p_0 := by omega) (p_1 := by omega) (p_2 := by omega) (p_3 := by omega) (p_4 := by omega) (p_5 := by omega)) (fun o V' hq => ?_)
        obtain ⟨G72, A73, r74, at2_75, fk2_76, op2_77, nd2_78, tk2_79, ec2_80, rfl, rfl, hW81, hF82, hQ83, b84, e85, e86, e87, e88, e89, e90, p91, p92, p93, p94, p95, p96, q97⟩ := hq
        have hF98 := Fr_tr hF65 hF82 (Fr_sub (by decide)) (Fr_sub (by decide))
        have hP99 := Pf_tr hP66 hQ83 (by omega)
        have hS100 := Fx_f hS67 hF82 (by decide)
        have hV101 := Fx_f hV68 hF82 (by decide)
        have sf102 : ND A73 (n) (30) (0) (0) (0) (0) (Ax 21 (n).toNat) (0) := ND_ag (by omega) (Ag_pf hQ83 (by omega)) sf69
        have sf103 : CI 1 A73 (sy1) pb (k) (Vs) (n) (last) (n + 1) (nd1) (sy) (sy1) := CI_ag (by omega) (by omega) (Sg_fr hF82 (by decide)) (Qg_fr hF82 (by decide)) (Ag_pf hQ83 (by omega)) (hQ83 21 _ rfl (by omega)) sf70
        have sf104 : ND A73 (nd1) (34) (0) (0) (0) (0) (0) (0) := ND_ag (by omega) (Ag_pf hQ83 (by omega)) p63
        have bat2_75 : (0 : Int) ≤ at2_75 ∧ at2_75 ≤ 3002 := e85 ▸ hW81.1 10
        have bfk2_76 : (0 : Int) ≤ fk2_76 ∧ fk2_76 ≤ 6 := e86 ▸ hW81.1 16
        have bop2_77 : (-2147483648 : Int) ≤ op2_77 ∧ op2_77 ≤ 2147483647 := e87 ▸ hW81.1 15
        have bnd2_78 : (0 : Int) ≤ nd2_78 ∧ nd2_78 ≤ 6999 := e88 ▸ hW81.1 31
        have ztk2_79 := tz_b tk2_79
        have btk2_79 : (0 : Int) ≤ tk2_79 ∧ tk2_79 ≤ 5 := e89 ▸ hW81.1 11
        refine .inr ⟨_, rfl, ?_⟩
        rcases q97 with ⟨a105, a106, a107, a108, a109, a110⟩ | ⟨a111, a112, a113⟩ | ⟨a114, a115, a116, a117, a118, a119⟩
        · have _q : True := trivial
          exfalso
          omega
        · have _q : True := trivial
          refine jr_st (pc' := 56) (i := 17) (m := 7000) (z := nd1) (y := r74) rfl (by decide) rfl (by decide) (by omega) (by omega) rfl ?_
          have hW121 : Wk G72 (uA A73 17 (nd1).toNat (r74)) := Wk_a hW81 (show (-2147483648 : Int) ≤ r74 by omega) (show r74 ≤ (2147483647 : Int) by omega)
          have hF122 := Fr_a (z := r74) (k := 17) (n := (nd1).toNat) hF98 (by decide)
          obtain ⟨A120, eA120⟩ : ∃ q, q = uA A73 17 (nd1).toNat (r74) := ⟨_, rfl⟩
          rw [← eA120]
          rw [← eA120] at hW121 hF122
          have q123 : A120 17 (nd1).toNat = r74 := by rw [eA120]; exact uA_eq
          have hP124 : Pf nd A A120 := eA120 ▸ Pf_a hP99 (z := nd1) (by omega) (by omega)
          have hS125 : Fx sr (sy) A A120 := eA120 ▸ Fx_n hS100 rfl
          have hV126 : Fx [14] (vi) A A120 := eA120 ▸ Fx_n hV101 rfl
          have sf127 : ND A120 (n) (30) (0) (0) (0) (0) (Ax 21 (n).toNat) (0) := ND_ag (by omega) (Ag_st eA120 (by omega) (by omega)) sf102
          have sf128 : CI 1 A120 (sy1) pb (k) (Vs) (n) (last) (n + 1) (nd1) (sy) (sy1) := CI_ag (by omega) (by omega) (Sg_ne eA120 rfl) (Qg_ne eA120 rfl) (Ag_st eA120 (by omega) (by omega)) ((congrFun ((congrFun eA120 21).trans (uA_ne (by decide))) _)) sf103
          have sf129 : ND A120 (nd1) (34) (r74) (0) (0) (0) (0) (0) := ND_a eA120 sf104
          have ec130 : ecn A120 (G72 31) = ec2_80 := (ecn_e ((congrFun eA120 15).trans (uA_ne (by decide)))).trans e90
          refine jx_ld (pc' := 57) (l' := L71) (st' := [.ref 66]) rfl (jl_aloadn gL71_0) ?_
          refine jx_vr (pc' := 60) (as := []) (st := []) rfl rfl rfl rfl ⟨rfl, rfl, Nat.le_of_ble_eq_true rfl⟩ rfl rfl (c_endLine (dd := d) (hd := by omega) (hW := hW121)  (ln := ln1) (e_ln := show G72 9 = ln1 from ((hF82.1 9 rfl).trans ((hF57.1 9 rfl).trans ((hF35.1 9 rfl).trans ((hF7.1 9 rfl).trans (ex_ln1)))))) (li := li) (e_li := show G72 3 = li from ((hF82.1 3 rfl).trans ((hF57.1 3 rfl).trans ((hF35.1 3 rfl).trans ((hF7.1 3 rfl).trans ((hFx.1 3 rfl).trans (e_li))))))) (fk := fk2_76) (e_fk := show G72 16 = fk2_76 from (e86)) (tk0 := tk2_79) (e_tk0 := show G72 11 = tk2_79 from (e89))    (p_0 := by omega)) (fun o V' hq => ?_)
          obtain ⟨G131, A132, ln2_133, fk2_134, rfl, rfl, hW135, hF136, e137, e138, q139⟩ := hq
          have hF140 := Fr_tr hF122 hF136 (Fr_sub (by decide)) (Fr_sub (by decide))
          have hP141 := Pf_f hP124 hF136 (by decide)
          have hS142 := Fx_f hS125 hF136 (by decide)
          have hV143 := Fx_f hV126 hF136 (by decide)
          have sf144 : ND A132 (n) (30) (0) (0) (0) (0) (Ax 21 (n).toNat) (0) := ND_ag (by omega) (Ag_fr hF136 (by decide)) sf127
          have sf145 : CI 1 A132 (sy1) pb (k) (Vs) (n) (last) (n + 1) (nd1) (sy) (sy1) := CI_ag (by omega) (by omega) (Sg_fr hF136 (by decide)) (Qg_fr hF136 (by decide)) (Ag_fr hF136 (by decide)) (congrFun (hF136.2 21 rfl) _) sf128
          have sf146 : ND A132 (nd1) (34) (r74) (0) (0) (0) (0) (0) := ND_ag (by omega) (Ag_fr hF136 (by decide)) sf129
          have ec147 : ecn A132 (G131 31) = ec2_80 := (ecn_f (hF136.2 15 rfl) (hF136.1 31 rfl)).trans ec130
          have bln2_133 : (0 : Int) ≤ ln2_133 ∧ ln2_133 ≤ 3000 := e137 ▸ hW135.1 9
          have bfk2_134 : (0 : Int) ≤ fk2_134 ∧ fk2_134 ≤ 6 := e138 ▸ hW135.1 16
          refine .inl ⟨rfl, ?_⟩
          rcases q139 with ⟨a148, a149, a150, a151, a152⟩ | ⟨a153, a154⟩
          · have _q : True := trivial
            exfalso
            omega
          · have _q : True := trivial
            refine jx_ld (pc' := 61) (l' := L71) (st' := [.ref 66]) rfl (jl_aloadn gL71_0) ?_
            refine jx_vr (pc' := 64) (as := []) (st := []) rfl rfl rfl rfl ⟨rfl, rfl, Nat.le_of_ble_eq_true rfl⟩ rfl rfl (c_bad (dd := d) (hd := by omega) (hW := hW135)  (fk := fk2_134) (e_fk := show G131 16 = fk2_134 from (e138))    ) (fun o V' hq => ?_)
            obtain ⟨r155, rfl, rfl, b156, q157⟩ := hq
            refine .inr ⟨_, rfl, ?_⟩
            rcases q157 with ⟨rfl, a158⟩ | ⟨rfl, a159⟩
            · have _q : True := trivial
              refine jx_if_eq (pc' := 67) (tg := 71) rfl rfl rfl (by decide) (by decide) (fun h160 => ?_) (fun h160 => ?_)
              · have _q := h160
                exact absurd h160 (by omega)
              · have _q := h160
                refine jx_ar (pc' := 68) (st' := [.int (i32 (0))]) rfl rfl rfl rfl ?_
                refine jx_go (tg := 78) rfl rfl ?_
                refine jx_ld (pc' := 80) (l' := jSto1 L71 5 (.int (i32 (0)))) (st' := []) rfl rfl ?_
                obtain ⟨L161, eL161⟩ : ∃ q, q = jSto1 L71 5 (.int (i32 (0))) := ⟨_, rfl⟩
                rw [← eL161]
                have gL161_0 : jGet L161 0 = some (.ref 66) := eL161 ▸ jg_ne (by decide) gL71_0 rfl
                have gL161_1 : jGet L161 1 = some (.int (i32 (lv))) := eL161 ▸ jg_ne (by decide) gL71_1 rfl
                have gL161_2 : jGet L161 2 = some (.int (i32 (n))) := eL161 ▸ jg_ne (by decide) gL71_2 rfl
                have gL161_3 : jGet L161 3 = some (.int (i32 (last))) := eL161 ▸ jg_ne (by decide) gL71_3 rfl
                have gL161_4 : jGet L161 4 = some (.int (i32 (nd1))) := eL161 ▸ jg_ne (by decide) gL71_4 rfl
                have gL161_5 : jGet L161 5 = some (.int (i32 (0))) := eL161 ▸ jg_eq
                refine jx_ld (pc' := 81) (l' := L161) (st' := [.ref 66]) rfl (jl_aloadn gL161_0) ?_
                refine jx_vr (pc' := 84) (as := []) (st := []) rfl rfl rfl rfl ⟨rfl, rfl, Nat.le_of_ble_eq_true rfl⟩ rfl rfl (c_bad (dd := d) (hd := by omega) (hW := hW135)  (fk := fk2_134) (e_fk := show G131 16 = fk2_134 from (e138))    ) (fun o V' hq => ?_)
                obtain ⟨r162, rfl, rfl, b163, q164⟩ := hq
                refine .inr ⟨_, rfl, ?_⟩
                rcases q164 with ⟨rfl, a165⟩ | ⟨rfl, a166⟩
                · have _q : True := trivial
                  refine jx_if_eq (pc' := 87) (tg := 89) rfl rfl rfl (by decide) (by decide) (fun h167 => ?_) (fun h167 => ?_)
                  · have _q := h167
                    exact absurd h167 (by omega)
                  · have _q := h167
                    refine jx_ar (pc' := 88) (st' := [.int (i32 (0))]) rfl rfl rfl rfl ?_
                    refine jx_rt (v := some (.int (i32 (0)))) rfl rfl rfl rfl rfl rfl ?_
                    exact ⟨_, _, _, ln2_133, at2_75, fk2_134, nd2_78, sy1, na1, vi1, A 3 (ln2_133).toNat, ec2_80, rfl, rfl, hW135, hF140, hP141, hS142, hV143, by omega, (e137), ((hF136.1 10 rfl).trans (e85)), (e138), ((hF136.1 31 rfl).trans (e88)), ((hF136.1 19 rfl).trans ((hF82.1 19 rfl).trans ((hF57.1 19 rfl).trans ((hF35.1 19 rfl).trans ((hF7.1 19 rfl).trans (ex_sy1)))))), ((hF136.1 28 rfl).trans ((hF82.1 28 rfl).trans ((hF57.1 28 rfl).trans ((hF35.1 28 rfl).trans ((hF7.1 28 rfl).trans (ex_na1)))))), ((hF136.1 29 rfl).trans ((hF82.1 29 rfl).trans ((hF57.1 29 rfl).trans ((hF35.1 29 rfl).trans ((hF7.1 29 rfl).trans (ex_vi1)))))), (congrFun ((hF136.2 3 rfl).trans (((congrFun eA120 3).trans (uA_ne (by decide))).trans ((hF82.2 3 rfl).trans ((hF57.2 3 rfl).trans ((hF35.2 3 rfl).trans ((hF7.2 3 rfl).trans (hFx.2 3 rfl))))))) _), ec147, by omega, by omega, by omega, by omega, by omega, by omega, by omega, by omega, by omega, by omega, by first | exact Or.inl (⟨by omega, by omega⟩)⟩
                · have _q : True := trivial
                  exfalso
                  omega
            · have _q : True := trivial
              exfalso
              omega
        · have _q : True := trivial
          refine jr_st (pc' := 56) (i := 17) (m := 7000) (z := nd1) (y := r74) rfl (by decide) rfl (by decide) (by omega) (by omega) rfl ?_
          have hW169 : Wk G72 (uA A73 17 (nd1).toNat (r74)) := Wk_a hW81 (show (-2147483648 : Int) ≤ r74 by omega) (show r74 ≤ (2147483647 : Int) by omega)
          have hF170 := Fr_a (z := r74) (k := 17) (n := (nd1).toNat) hF98 (by decide)
          obtain ⟨A168, eA168⟩ : ∃ q, q = uA A73 17 (nd1).toNat (r74) := ⟨_, rfl⟩
          rw [← eA168]
          rw [← eA168] at hW169 hF170
          have q171 : A168 17 (nd1).toNat = r74 := by rw [eA168]; exact uA_eq
          have hP172 : Pf nd A A168 := eA168 ▸ Pf_a hP99 (z := nd1) (by omega) (by omega)
          have hS173 : Fx sr (sy) A A168 := eA168 ▸ Fx_n hS100 rfl
          have hV174 : Fx [14] (vi) A A168 := eA168 ▸ Fx_n hV101 rfl
          have sf175 : ND A168 (n) (30) (0) (0) (0) (0) (Ax 21 (n).toNat) (0) := ND_ag (by omega) (Ag_st eA168 (by omega) (by omega)) sf102
          have sf176 : CI 1 A168 (sy1) pb (k) (Vs) (n) (last) (n + 1) (nd1) (sy) (sy1) := CI_ag (by omega) (by omega) (Sg_ne eA168 rfl) (Qg_ne eA168 rfl) (Ag_st eA168 (by omega) (by omega)) ((congrFun ((congrFun eA168 21).trans (uA_ne (by decide))) _)) sf103
          have sf177 : ND A168 (nd1) (34) (r74) (0) (0) (0) (0) (0) := ND_a eA168 sf104
          have sf178 : wE A168 Vs sb (2 * 9 + 2) (r74) (nd2_54) (nd2_78) := wE_ag (by omega) (Sg_ne eA168 rfl) (Ag_st eA168 (by omega) (by omega)) a117
          have ec179 : ecn A168 (G72 31) = ec2_80 := (ecn_e ((congrFun eA168 15).trans (uA_ne (by decide)))).trans e90
          refine jx_ld (pc' := 57) (l' := L71) (st' := [.ref 66]) rfl (jl_aloadn gL71_0) ?_
          refine jx_vr (pc' := 60) (as := []) (st := []) rfl rfl rfl rfl ⟨rfl, rfl, Nat.le_of_ble_eq_true rfl⟩ rfl rfl (c_endLine (dd := d) (hd := by omega) (hW := hW169)  (ln := ln1) (e_ln := show G72 9 = ln1 from ((hF82.1 9 rfl).trans ((hF57.1 9 rfl).trans ((hF35.1 9 rfl).trans ((hF7.1 9 rfl).trans (ex_ln1)))))) (li := li) (e_li := show G72 3 = li from ((hF82.1 3 rfl).trans ((hF57.1 3 rfl).trans ((hF35.1 3 rfl).trans ((hF7.1 3 rfl).trans ((hFx.1 3 rfl).trans (e_li))))))) (fk := fk2_76) (e_fk := show G72 16 = fk2_76 from (e86)) (tk0 := tk2_79) (e_tk0 := show G72 11 = tk2_79 from (e89))    (p_0 := by omega)) (fun o V' hq => ?_)
          obtain ⟨G180, A181, ln2_182, fk2_183, rfl, rfl, hW184, hF185, e186, e187, q188⟩ := hq
          have hF189 := Fr_tr hF170 hF185 (Fr_sub (by decide)) (Fr_sub (by decide))
          have hP190 := Pf_f hP172 hF185 (by decide)
          have hS191 := Fx_f hS173 hF185 (by decide)
          have hV192 := Fx_f hV174 hF185 (by decide)
          have sf193 : ND A181 (n) (30) (0) (0) (0) (0) (Ax 21 (n).toNat) (0) := ND_ag (by omega) (Ag_fr hF185 (by decide)) sf175
          have sf194 : CI 1 A181 (sy1) pb (k) (Vs) (n) (last) (n + 1) (nd1) (sy) (sy1) := CI_ag (by omega) (by omega) (Sg_fr hF185 (by decide)) (Qg_fr hF185 (by decide)) (Ag_fr hF185 (by decide)) (congrFun (hF185.2 21 rfl) _) sf176
          have sf195 : ND A181 (nd1) (34) (r74) (0) (0) (0) (0) (0) := ND_ag (by omega) (Ag_fr hF185 (by decide)) sf177
          have sf196 : wE A181 Vs sb (2 * 9 + 2) (r74) (nd2_54) (nd2_78) := wE_ag (by omega) (Sg_fr hF185 (by decide)) (Ag_fr hF185 (by decide)) sf178
          have ec197 : ecn A181 (G180 31) = ec2_80 := (ecn_f (hF185.2 15 rfl) (hF185.1 31 rfl)).trans ec179
          have bln2_182 : (0 : Int) ≤ ln2_182 ∧ ln2_182 ≤ 3000 := e186 ▸ hW184.1 9
          have bfk2_183 : (0 : Int) ≤ fk2_183 ∧ fk2_183 ≤ 6 := e187 ▸ hW184.1 16
          refine .inl ⟨rfl, ?_⟩
          rcases q188 with ⟨a198, a199, a200, a201, a202⟩ | ⟨a203, a204⟩
          · have _q : True := trivial
            have b205 : (0 : Int) ≤ A 3 (ln2_182).toNat ∧ A 3 (ln2_182).toNat ≤ 3000 := hW.2 3 _
            have lt206 : ln2_182 < li → A 4 (ln1).toNat < A 3 (ln2_182).toNat := fun hh => LT_nx (LT_ext (((hF185.1 3 rfl).trans ((hF82.1 3 rfl).trans ((hF57.1 3 rfl).trans ((hF35.1 3 rfl).trans ((hF7.1 3 rfl).trans (hFx.1 3 rfl))))))) (((hF185.2 3 rfl).trans (((congrFun eA168 3).trans (uA_ne (by decide))).trans ((hF82.2 3 rfl).trans ((hF57.2 3 rfl).trans ((hF35.2 3 rfl).trans ((hF7.2 3 rfl).trans (hFx.2 3 rfl)))))))) (((hF185.2 4 rfl).trans (((congrFun eA168 4).trans (uA_ne (by decide))).trans ((hF82.2 4 rfl).trans ((hF57.2 4 rfl).trans ((hF35.2 4 rfl).trans ((hF7.2 4 rfl).trans (hFx.2 4 rfl)))))))) i_LT) (show G180 3 = li from ((hF185.1 3 rfl).trans ((hF82.1 3 rfl).trans ((hF57.1 3 rfl).trans ((hF35.1 3 rfl).trans ((hF7.1 3 rfl).trans ((hFx.1 3 rfl).trans (e_li)))))))) (show A181 4 (ln1).toNat = A 4 (ln1).toNat from (congrFun ((hF185.2 4 rfl).trans (((congrFun eA168 4).trans (uA_ne (by decide))).trans ((hF82.2 4 rfl).trans ((hF57.2 4 rfl).trans ((hF35.2 4 rfl).trans ((hF7.2 4 rfl).trans (hFx.2 4 rfl))))))) _)) (show A181 3 (ln2_182).toNat = A 3 (ln2_182).toNat from (congrFun ((hF185.2 3 rfl).trans (((congrFun eA168 3).trans (uA_ne (by decide))).trans ((hF82.2 3 rfl).trans ((hF57.2 3 rfl).trans ((hF35.2 3 rfl).trans ((hF7.2 3 rfl).trans (hFx.2 3 rfl))))))) _)) (show ln2_182 = ln1 + 1 by omega) (by omega) hh
            refine jx_ld (pc' := 61) (l' := L71) (st' := [.ref 66]) rfl (jl_aloadn gL71_0) ?_
            refine jx_vr (pc' := 64) (as := []) (st := []) rfl rfl rfl rfl ⟨rfl, rfl, Nat.le_of_ble_eq_true rfl⟩ rfl rfl (c_bad (dd := d) (hd := by omega) (hW := hW184)  (fk := fk2_183) (e_fk := show G180 16 = fk2_183 from (e187))    ) (fun o V' hq => ?_)
            obtain ⟨r207, rfl, rfl, b208, q209⟩ := hq
            refine .inr ⟨_, rfl, ?_⟩
            rcases q209 with ⟨rfl, a210⟩ | ⟨rfl, a211⟩
            · have _q : True := trivial
              exfalso
              omega
            · have _q : True := trivial
              refine jx_if_eq (pc' := 67) (tg := 71) rfl rfl rfl (by decide) (by decide) (fun h212 => ?_) (fun h212 => ?_)
              · have _q := h212
                refine jx_ld (pc' := 72) (l' := L71) (st' := [.ref 66]) rfl (jl_aloadn gL71_0) ?_
                refine jx_ld (pc' := 73) (l' := L71) (st' := [.int (i32 (lv)), .ref 66]) rfl (jl_iloadn gL71_1) ?_
                refine jx_ar (pc' := 74) (st' := [.int (i32 (2)), .int (i32 (lv)), .ref 66]) rfl rfl rfl rfl ?_
                refine jx_add (pc' := 75) rfl rfl ?_
                refine jx_vr (pc' := 78) (as := [.int (i32 ((lv + 2)))]) (st := []) rfl rfl rfl rfl ⟨rfl, rfl, Nat.le_of_ble_eq_true rfl⟩ rfl rfl (hP (dd := d) (hd := by omega) (hW := hW184) (lv := (lv + 2)) (at0 := at2_75) (ln := ln2_182) (e_ln := show G180 9 = ln2_182 from (e186)) (li := li) (e_li := show G180 3 = li from ((hF185.1 3 rfl).trans ((hF82.1 3 rfl).trans ((hF57.1 3 rfl).trans ((hF35.1 3 rfl).trans ((hF7.1 3 rfl).trans ((hFx.1 3 rfl).trans (e_li)))))))) (fk := fk2_183) (e_fk := show G180 16 = fk2_183 from (e187)) (nd := nd2_78) (e_nd := show G180 31 = nd2_78 from ((hF185.1 31 rfl).trans (e88))) (sy := sy1) (e_sy := show G180 19 = sy1 from ((hF185.1 19 rfl).trans ((hF82.1 19 rfl).trans ((hF57.1 19 rfl).trans ((hF35.1 19 rfl).trans ((hF7.1 19 rfl).trans (ex_sy1))))))) (na := na1) (e_na := show G180 28 = na1 from ((hF185.1 28 rfl).trans ((hF82.1 28 rfl).trans ((hF57.1 28 rfl).trans ((hF35.1 28 rfl).trans ((hF7.1 28 rfl).trans (ex_na1))))))) (vi := vi1) (e_vi := show G180 29 = vi1 from ((hF185.1 29 rfl).trans ((hF82.1 29 rfl).trans ((hF57.1 29 rfl).trans ((hF35.1 29 rfl).trans ((hF7.1 29 rfl).trans (ex_vi1))))))) (lf := A 3 (ln2_182).toNat) (e_lf := show A181 3 (ln2_182).toNat = A 3 (ln2_182).toNat from (congrFun ((hF185.2 3 rfl).trans (((congrFun eA168 3).trans (uA_ne (by decide))).trans ((hF82.2 3 rfl).trans ((hF57.2 3 rfl).trans ((hF35.2 3 rfl).trans ((hF7.2 3 rfl).trans (hFx.2 3 rfl))))))) _)) (ac := at2_75) (e_ac := show G180 10 = at2_75 from ((hF185.1 10 rfl).trans (e85))) (ec := ec2_80) (e_ec := show ecn A181 (G180 31) = ec2_80 from ec197) (i_LT := (LT_ext (((hF185.1 3 rfl).trans ((hF82.1 3 rfl).trans ((hF57.1 3 rfl).trans ((hF35.1 3 rfl).trans ((hF7.1 3 rfl).trans (hFx.1 3 rfl))))))) (((hF185.2 3 rfl).trans (((congrFun eA168 3).trans (uA_ne (by decide))).trans ((hF82.2 3 rfl).trans ((hF57.2 3 rfl).trans ((hF35.2 3 rfl).trans ((hF7.2 3 rfl).trans (hFx.2 3 rfl)))))))) (((hF185.2 4 rfl).trans (((congrFun eA168 4).trans (uA_ne (by decide))).trans ((hF82.2 4 rfl).trans ((hF57.2 4 rfl).trans ((hF35.2 4 rfl).trans ((hF7.2 4 rfl).trans (hFx.2 4 rfl)))))))) i_LT)) (i_SV := (SV_fx i_SV e_vi (show G180 29 = vi1 from ((hF185.1 29 rfl).trans ((hF82.1 29 rfl).trans ((hF57.1 29 rfl).trans ((hF35.1 29 rfl).trans ((hF7.1 29 rfl).trans (ex_vi1))))))) (by omega) hV192)) (i_PQ := (PQ_fx i_PQ hS191 (by omega) (hF189.2 29 rfl) (hF189.2 30 rfl))) (hvb := hvb) (h_lv := ⟨(by omega), (by omega)⟩)  (p_0 := by omega) (p_1 := by omega) (p_2 := by omega) (p_3 := by omega) (p_4 := by omega) (p_5 := by omega) (p_6 := by omega) (p_7 := by omega) (p_8 := by omega) (p_9 := by omega) (p_10 := by omega)) (fun o V' hq => ?_)
                obtain ⟨G213, A214, r215, ln2_216, at2_217, fk2_218, nd2_219, sy2_220, na2_221, vi2_222, lf2_223, ec2_224, rfl, rfl, hW225, hF226, hQ227, hQ228, hQ229, b230, e231, e232, e233, e234, e235, e236, e237, e238, e239, p240, p241, p242, p243, p244, p245, p246, p247, p248, q249⟩ := hq
                have hF250 := Fr_tr hF189 hF226 (Fr_sub (by decide)) (Fr_sub (by decide))
                have k251 : A214 17 (nd1).toNat = r74 := (hQ227 17 _ rfl (by omega)).trans (show A181 17 (nd1).toNat = r74 from (congrFun (hF185.2 17 rfl) _).trans (q171))
                have hP252 := Pf_tr hP190 hQ227 (by omega)
                have hS253 := Fx_tr hS191 hQ228 (by omega)
                have hV254 := Fx_tr hV192 hQ229 (by omega)
                have sf255 : ND A214 (n) (30) (0) (0) (0) (0) (Ax 21 (n).toNat) (0) := ND_ag (by omega) (Ag_pf hQ227 (by omega)) sf193
                have sf256 : CI 1 A214 (sy1) pb (k) (Vs) (n) (last) (n + 1) (nd1) (sy) (sy1) := CI_ag (by omega) (by omega) (Fx_su hQ228 (by omega)) (Qg_fr hF226 (by decide)) (Ag_pf hQ227 (by omega)) (hQ227 21 _ rfl (by omega)) sf194
                have sf257 : ND A214 (nd1) (34) (r74) (0) (0) (0) (0) (0) := ND_ag (by omega) (Ag_pf hQ227 (by omega)) sf195
                have sf258 : wE A214 Vs sb (2 * 9 + 2) (r74) (nd2_54) (nd2_78) := wE_ag (by omega) (Fx_su hQ228 (by omega)) (Ag_pf hQ227 (by omega)) sf196
                have bln2_216 : (0 : Int) ≤ ln2_216 ∧ ln2_216 ≤ 3000 := e231 ▸ hW225.1 9
                have bat2_217 : (0 : Int) ≤ at2_217 ∧ at2_217 ≤ 3002 := e232 ▸ hW225.1 10
                have bfk2_218 : (0 : Int) ≤ fk2_218 ∧ fk2_218 ≤ 6 := e233 ▸ hW225.1 16
                have bnd2_219 : (0 : Int) ≤ nd2_219 ∧ nd2_219 ≤ 6999 := e234 ▸ hW225.1 31
                have bsy2_220 : (0 : Int) ≤ sy2_220 ∧ sy2_220 ≤ 202 := e235 ▸ hW225.1 19
                have bna2_221 : (0 : Int) ≤ na2_221 ∧ na2_221 ≤ 200 := e236 ▸ hW225.1 28
                have bvi2_222 : (0 : Int) ≤ vi2_222 ∧ vi2_222 ≤ 202 := e237 ▸ hW225.1 29
                have blf2_223 : (0 : Int) ≤ lf2_223 ∧ lf2_223 ≤ 3000 := e238 ▸ hW225.2 3 _
                refine .inr ⟨_, rfl, ?_⟩
                rcases q249 with ⟨a259, a260⟩ | ⟨a261, a262, a263, a264, a265, a266, a267, a268, a269, a270⟩
                · have _q : True := trivial
                  refine jx_ld (pc' := 80) (l' := jSto1 L71 5 (.int (i32 (r215)))) (st' := []) rfl rfl ?_
                  obtain ⟨L271, eL271⟩ : ∃ q, q = jSto1 L71 5 (.int (i32 (r215))) := ⟨_, rfl⟩
                  rw [← eL271]
                  have gL271_0 : jGet L271 0 = some (.ref 66) := eL271 ▸ jg_ne (by decide) gL71_0 rfl
                  have gL271_1 : jGet L271 1 = some (.int (i32 (lv))) := eL271 ▸ jg_ne (by decide) gL71_1 rfl
                  have gL271_2 : jGet L271 2 = some (.int (i32 (n))) := eL271 ▸ jg_ne (by decide) gL71_2 rfl
                  have gL271_3 : jGet L271 3 = some (.int (i32 (last))) := eL271 ▸ jg_ne (by decide) gL71_3 rfl
                  have gL271_4 : jGet L271 4 = some (.int (i32 (nd1))) := eL271 ▸ jg_ne (by decide) gL71_4 rfl
                  have gL271_5 : jGet L271 5 = some (.int (i32 (r215))) := eL271 ▸ jg_eq
                  refine jx_ld (pc' := 81) (l' := L271) (st' := [.ref 66]) rfl (jl_aloadn gL271_0) ?_
                  refine jx_vr (pc' := 84) (as := []) (st := []) rfl rfl rfl rfl ⟨rfl, rfl, Nat.le_of_ble_eq_true rfl⟩ rfl rfl (c_bad (dd := d) (hd := by omega) (hW := hW225)  (fk := fk2_218) (e_fk := show G213 16 = fk2_218 from (e233))    ) (fun o V' hq => ?_)
                  obtain ⟨r272, rfl, rfl, b273, q274⟩ := hq
                  refine .inr ⟨_, rfl, ?_⟩
                  rcases q274 with ⟨rfl, a275⟩ | ⟨rfl, a276⟩
                  · have _q : True := trivial
                    refine jx_if_eq (pc' := 87) (tg := 89) rfl rfl rfl (by decide) (by decide) (fun h277 => ?_) (fun h277 => ?_)
                    · have _q := h277
                      exact absurd h277 (by omega)
                    · have _q := h277
                      refine jx_ar (pc' := 88) (st' := [.int (i32 (0))]) rfl rfl rfl rfl ?_
                      refine jx_rt (v := some (.int (i32 (0)))) rfl rfl rfl rfl rfl rfl ?_
                      exact ⟨_, _, _, ln2_216, at2_217, fk2_218, nd2_219, sy2_220, na2_221, vi2_222, lf2_223, ec2_224, rfl, rfl, hW225, hF250, hP252, hS253, hV254, by omega, (e231), (e232), (e233), (e234), (e235), (e236), (e237), (e238), e239, by omega, by omega, by omega, by omega, by omega, by omega, by omega, by omega, by omega, by omega, by first | exact Or.inl (⟨by omega, by omega⟩)⟩
                  · have _q : True := trivial
                    exfalso
                    omega
                · have _q : True := trivial
                  refine jx_ld (pc' := 80) (l' := jSto1 L71 5 (.int (i32 (r215)))) (st' := []) rfl rfl ?_
                  obtain ⟨L278, eL278⟩ : ∃ q, q = jSto1 L71 5 (.int (i32 (r215))) := ⟨_, rfl⟩
                  rw [← eL278]
                  have gL278_0 : jGet L278 0 = some (.ref 66) := eL278 ▸ jg_ne (by decide) gL71_0 rfl
                  have gL278_1 : jGet L278 1 = some (.int (i32 (lv))) := eL278 ▸ jg_ne (by decide) gL71_1 rfl
                  have gL278_2 : jGet L278 2 = some (.int (i32 (n))) := eL278 ▸ jg_ne (by decide) gL71_2 rfl
                  have gL278_3 : jGet L278 3 = some (.int (i32 (last))) := eL278 ▸ jg_ne (by decide) gL71_3 rfl
                  have gL278_4 : jGet L278 4 = some (.int (i32 (nd1))) := eL278 ▸ jg_ne (by decide) gL71_4 rfl
                  have gL278_5 : jGet L278 5 = some (.int (i32 (r215))) := eL278 ▸ jg_eq
                  refine jx_ld (pc' := 81) (l' := L278) (st' := [.ref 66]) rfl (jl_aloadn gL278_0) ?_
                  refine jx_vr (pc' := 84) (as := []) (st := []) rfl rfl rfl rfl ⟨rfl, rfl, Nat.le_of_ble_eq_true rfl⟩ rfl rfl (c_bad (dd := d) (hd := by omega) (hW := hW225)  (fk := fk2_218) (e_fk := show G213 16 = fk2_218 from (e233))    ) (fun o V' hq => ?_)
                  obtain ⟨r279, rfl, rfl, b280, q281⟩ := hq
                  refine .inr ⟨_, rfl, ?_⟩
                  rcases q281 with ⟨rfl, a282⟩ | ⟨rfl, a283⟩
                  · have _q : True := trivial
                    exfalso
                    omega
                  · have _q : True := trivial
                    refine jx_if_eq (pc' := 87) (tg := 89) rfl rfl rfl (by decide) (by decide) (fun h284 => ?_) (fun h284 => ?_)
                    · have _q := h284
                      refine jx_ld (pc' := 90) (l' := L278) (st' := [.ref 66]) rfl (jl_aloadn gL278_0) ?_
                      refine jr_get (pc' := 93) (i := 38) (v := .ref 88) rfl rfl (by decide) rfl rfl ?_
                      refine jx_ld (pc' := 95) (l' := L278) (st' := [.int (i32 (nd1)), .ref 88]) rfl (jl_iload gL278_4) ?_
                      refine jx_ld (pc' := 97) (l' := L278) (st' := [.int (i32 (r215)), .int (i32 (nd1)), .ref 88]) rfl (jl_iload gL278_5) ?_
                      refine jr_st (pc' := 98) (i := 21) (m := 7000) (z := nd1) (y := r215) rfl (by decide) rfl (by decide) (by omega) (by omega) rfl ?_
                      have hW286 : Wk G213 (uA A214 21 (nd1).toNat (r215)) := Wk_a hW225 (show (-2147483648 : Int) ≤ r215 by omega) (show r215 ≤ (2147483647 : Int) by omega)
                      have hF287 := Fr_a (z := r215) (k := 21) (n := (nd1).toNat) hF250 (by decide)
                      obtain ⟨A285, eA285⟩ : ∃ q, q = uA A214 21 (nd1).toNat (r215) := ⟨_, rfl⟩
                      rw [← eA285]
                      rw [← eA285] at hW286 hF287
                      have q288 : A285 21 (nd1).toNat = r215 := by rw [eA285]; exact uA_eq
                      have hP289 : Pf nd A A285 := eA285 ▸ Pf_a hP252 (z := nd1) (by omega) (by omega)
                      have hS290 : Fx sr (sy) A A285 := eA285 ▸ Fx_n hS253 rfl
                      have hV291 : Fx [14] (vi) A A285 := eA285 ▸ Fx_n hV254 rfl
                      have sf292 : ND A285 (n) (30) (0) (0) (0) (0) (Ax 21 (n).toNat) (0) := ND_ag (by omega) (Ag_st eA285 (by omega) (by omega)) sf255
                      have sf293 : CI 1 A285 (sy1) pb (k) (Vs) (n) (last) (n + 1) (nd1) (sy) (sy1) := CI_ag (by omega) (by omega) (Sg_ne eA285 rfl) (Qg_ne eA285 rfl) (Ag_st eA285 (by omega) (by omega)) ((by rw [eA285]; exact uA_ni (by omega))) sf256
                      have sf294 : ND A285 (nd1) (34) (r74) (0) (0) (0) (r215) (0) := ND_f eA285 sf257
                      have sf295 : wE A285 Vs sb (2 * 9 + 2) (r74) (nd2_54) (nd2_78) := wE_ag (by omega) (Sg_ne eA285 rfl) (Ag_st eA285 (by omega) (by omega)) sf258
                      have sf296 : wP A285 (sy2_220) pb (k) (Vs) (r215) (nd2_78) (nd2_219) (sy1) (sy2_220) := wP_ag (Sg_ne eA285 rfl) (Qg_ne eA285 rfl) (by omega) (by omega) (Ax_ag (Ag_st eA285 (by omega) (by omega))) a267
                      have sf297 : NX A285 (r215) := NX_r eA285 (by decide) a268
                      have ec298 : ecn A285 (G213 31) = ec2_224 := (ecn_e ((congrFun eA285 15).trans (uA_ne (by decide)))).trans e239
                      refine jx_ld (pc' := 99) (l' := L278) (st' := [.ref 66]) rfl (jl_aloadn gL278_0) ?_
                      refine jx_ld (pc' := 100) (l' := L278) (st' := [.int (i32 (n)), .ref 66]) rfl (jl_iloadn gL278_2) ?_
                      refine jx_ld (pc' := 101) (l' := L278) (st' := [.int (i32 (last)), .int (i32 (n)), .ref 66]) rfl (jl_iloadn gL278_3) ?_
                      refine jx_ld (pc' := 103) (l' := L278) (st' := [.int (i32 (nd1)), .int (i32 (last)), .int (i32 (n)), .ref 66]) rfl (jl_iload gL278_4) ?_
                      refine jx_vr (pc' := 106) (as := [.int (i32 (n)), .int (i32 (last)), .int (i32 (nd1))]) (st := []) rfl rfl rfl rfl ⟨rfl, rfl, Nat.le_of_ble_eq_true rfl⟩ rfl rfl (c_addTo (dd := d) (zz := nd) (hd := by omega) (hW := hW286) (n := n) (last := last) (one := nd1)   (h_n := ⟨(Int.le_trans (by decide : (-2147483648 : Int) ≤ -2147483648) rx_n.1), (Int.le_trans rx_n.2 (by decide : (2147483647 : Int) ≤ 2147483647))⟩) (h_last := ⟨(Int.le_trans (by decide : (-2147483648 : Int) ≤ -2147483648) rx_last.1), (Int.le_trans rx_last.2 (by decide : (2147483647 : Int) ≤ 2147483647))⟩) (h_one := ⟨(Int.le_trans (by decide : (-2147483648 : Int) ≤ 0) b_nd1.1), (Int.le_trans b_nd1.2 (by decide : (6999 : Int) ≤ 2147483647))⟩)  (p_0 := by omega) (p_1 := by omega) (p_2 := by omega) (p_3 := by omega)) (fun o V' hq => ?_)
                      obtain ⟨G299, A300, rfl, rfl, hW301, hF302, hQ303, q304⟩ := hq
                      have hF305 := Fr_tr hF287 hF302 (Fr_sub (by decide)) (Fr_sub (by decide))
                      have hP306 := Pf_tr hP289 hQ303 (by omega)
                      have hS307 := Fx_f hS290 hF302 (by decide)
                      have hV308 := Fx_f hV291 hF302 (by decide)
                      have ec309 : ecn A300 (G299 31) = ec2_224 := (ecn_f (hF302.2 15 rfl) (hF302.1 31 rfl)).trans ec298
                      refine .inl ⟨rfl, ?_⟩
                      rcases q304 with ⟨a310, a311⟩ | ⟨a312, a313⟩
                      · have _q : True := trivial
                        have sf314 : ND A300 (n) (30) (0) (0) (0) (0) (nd1) (0) := ND_f a311 sf292
                        have sf315 : CI 1 A300 (sy2_220) pb (k) (Vs) (n) (nd1) (n + 1) (nd2_219) (sy) (sy2_220) := CI_one a311 (by omega) (by omega) (by omega) (by omega) (by omega) (by omega) (show RQ 1 A285 (sy2_220) pb (k) (Vs) (nd1) (nd1) (nd2_219) (sy1) (sy2_220) from wI_mk (m := nd2_78) sf294 (by omega) (by omega) (by omega) (wE_sb (by omega) (wE_mono (by omega) (by omega) (by omega) sf295)) (wP_eq sf296 (by omega) rfl rfl (by omega) rfl (by omega) rfl (by omega))) (NX_nd sf294) (CI_sb (by omega) sf293)
                        have sf316 : ND A300 (nd1) (34) (r74) (0) (0) (0) (r215) (0) := ND_ag (by omega) (Ag_st a311 (by omega) (by omega)) sf294
                        have sf317 : wE A300 Vs sb (2 * 9 + 2) (r74) (nd2_54) (nd2_78) := wE_ag (by omega) (Sg_ne a311 rfl) (Ag_st a311 (by omega) (by omega)) sf295
                        have sf318 : wP A300 (sy2_220) pb (k) (Vs) (r215) (nd2_78) (nd2_219) (sy1) (sy2_220) := wP_ag (Sg_ne a311 rfl) (Qg_ne a311 rfl) (by omega) (by omega) (Ax_ag (Ag_st a311 (by omega) (by omega))) sf296
                        have sf319 : NX A300 (r215) := NX_r a311 (by decide) sf297
                        refine jx_ld (pc' := 108) (l' := L278) (st' := [.int (i32 (nd1))]) rfl (jl_iload gL278_4) ?_
                        refine jx_ld (pc' := 109) (l' := jSto1 L278 3 (.int (i32 (nd1)))) (st' := []) rfl rfl ?_
                        obtain ⟨L320, eL320⟩ : ∃ q, q = jSto1 L278 3 (.int (i32 (nd1))) := ⟨_, rfl⟩
                        rw [← eL320]
                        have gL320_0 : jGet L320 0 = some (.ref 66) := eL320 ▸ jg_ne (by decide) gL278_0 rfl
                        have gL320_1 : jGet L320 1 = some (.int (i32 (lv))) := eL320 ▸ jg_ne (by decide) gL278_1 rfl
                        have gL320_2 : jGet L320 2 = some (.int (i32 (n))) := eL320 ▸ jg_ne (by decide) gL278_2 rfl
                        have gL320_4 : jGet L320 4 = some (.int (i32 (nd1))) := eL320 ▸ jg_ne (by decide) gL278_4 rfl
                        have gL320_5 : jGet L320 5 = some (.int (i32 (r215))) := eL320 ▸ jg_ne (by decide) gL278_5 rfl
                        have gL320_3 : jGet L320 3 = some (.int (i32 (nd1))) := eL320 ▸ jg_eq
                        refine jx_go (tg := 21) rfl rfl ?_
                        exact ih21 _ (by omega) L320 G299 A300 (n) (nd1) (ln2_216) (at2_217) (fk2_218) (nd2_219) (sy2_220) (na2_221) (vi2_222) (lf2_223) (ec2_224) rfl gL320_0 gL320_1 gL320_2 gL320_3 hW301 hF305 hP306 hS307 hV308 (((hF302.1 9 rfl).trans (e231))) (((hF302.1 10 rfl).trans (e232))) (((hF302.1 16 rfl).trans (e233))) (((hF302.1 31 rfl).trans (e234))) (((hF302.1 19 rfl).trans (e235))) (((hF302.1 28 rfl).trans (e236))) (((hF302.1 29 rfl).trans (e237))) ((congrFun ((hF302.2 3 rfl).trans ((congrFun eA285 3).trans (uA_ne (by decide)))) _).trans (e238)) (ec309) (by omega) (by omega) (by omega) (by omega) (by omega) (by omega) (by omega) (by omega) (by omega) (by omega) (by omega) (by omega) (by omega) (by omega) (by omega) (by omega) ((ND_sf sf314)) (sf315) (by omega) (by omega)
                      · have _q : True := trivial
                        have sf321 : ND A300 (n) (30) (0) (0) (0) (0) (Ax 21 (n).toNat) (0) := ND_ag (by omega) (Ag_st a313 (by omega) (by omega)) sf292
                        have sf322 : CI 1 A300 (sy2_220) pb (k) (Vs) (n) (nd1) (n + 1) (nd2_219) (sy) (sy2_220) := CI_two a313 (by omega) (by omega) (by omega) (by omega) (by omega) (show RQ 1 A285 (sy2_220) pb (k) (Vs) (nd1) (nd1) (nd2_219) (sy1) (sy2_220) from wI_mk (m := nd2_78) sf294 (by omega) (by omega) (by omega) (wE_sb (by omega) (wE_mono (by omega) (by omega) (by omega) sf295)) (wP_eq sf296 (by omega) rfl rfl (by omega) rfl (by omega) rfl (by omega))) (NX_nd sf294) (CI_sb (by omega) sf293)
                        have sf323 : ND A300 (nd1) (34) (r74) (0) (0) (0) (r215) (0) := ND_ag (by omega) (Ag_st a313 (by omega) (by omega)) sf294
                        have sf324 : wE A300 Vs sb (2 * 9 + 2) (r74) (nd2_54) (nd2_78) := wE_ag (by omega) (Sg_ne a313 rfl) (Ag_st a313 (by omega) (by omega)) sf295
                        have sf325 : wP A300 (sy2_220) pb (k) (Vs) (r215) (nd2_78) (nd2_219) (sy1) (sy2_220) := wP_ag (Sg_ne a313 rfl) (Qg_ne a313 rfl) (by omega) (by omega) (Ax_ag (Ag_st a313 (by omega) (by omega))) sf296
                        have sf326 : NX A300 (r215) := NX_ag (by omega) (Ag_st a313 (by omega) (by omega)) sf297
                        refine jx_ld (pc' := 108) (l' := L278) (st' := [.int (i32 (nd1))]) rfl (jl_iload gL278_4) ?_
                        refine jx_ld (pc' := 109) (l' := jSto1 L278 3 (.int (i32 (nd1)))) (st' := []) rfl rfl ?_
                        obtain ⟨L327, eL327⟩ : ∃ q, q = jSto1 L278 3 (.int (i32 (nd1))) := ⟨_, rfl⟩
                        rw [← eL327]
                        have gL327_0 : jGet L327 0 = some (.ref 66) := eL327 ▸ jg_ne (by decide) gL278_0 rfl
                        have gL327_1 : jGet L327 1 = some (.int (i32 (lv))) := eL327 ▸ jg_ne (by decide) gL278_1 rfl
                        have gL327_2 : jGet L327 2 = some (.int (i32 (n))) := eL327 ▸ jg_ne (by decide) gL278_2 rfl
                        have gL327_4 : jGet L327 4 = some (.int (i32 (nd1))) := eL327 ▸ jg_ne (by decide) gL278_4 rfl
                        have gL327_5 : jGet L327 5 = some (.int (i32 (r215))) := eL327 ▸ jg_ne (by decide) gL278_5 rfl
                        have gL327_3 : jGet L327 3 = some (.int (i32 (nd1))) := eL327 ▸ jg_eq
                        refine jx_go (tg := 21) rfl rfl ?_
                        exact ih21 _ (by omega) L327 G299 A300 (n) (nd1) (ln2_216) (at2_217) (fk2_218) (nd2_219) (sy2_220) (na2_221) (vi2_222) (lf2_223) (ec2_224) rfl gL327_0 gL327_1 gL327_2 gL327_3 hW301 hF305 hP306 hS307 hV308 (((hF302.1 9 rfl).trans (e231))) (((hF302.1 10 rfl).trans (e232))) (((hF302.1 16 rfl).trans (e233))) (((hF302.1 31 rfl).trans (e234))) (((hF302.1 19 rfl).trans (e235))) (((hF302.1 28 rfl).trans (e236))) (((hF302.1 29 rfl).trans (e237))) ((congrFun ((hF302.2 3 rfl).trans ((congrFun eA285 3).trans (uA_ne (by decide)))) _).trans (e238)) (ec309) (by omega) (by omega) (by omega) (by omega) (by omega) (by omega) (by omega) (by omega) (by omega) (by omega) (by omega) (by omega) (by omega) (by omega) (by omega) (by omega) ((ND_sf sf321)) (sf322) (by omega) (by omega)
                    · have _q := h284
                      exact absurd h284 (by omega)
              · have _q := h212
                exact absurd h212 (by omega)
          · have _q : True := trivial
            refine jx_ld (pc' := 61) (l' := L71) (st' := [.ref 66]) rfl (jl_aloadn gL71_0) ?_
            refine jx_vr (pc' := 64) (as := []) (st := []) rfl rfl rfl rfl ⟨rfl, rfl, Nat.le_of_ble_eq_true rfl⟩ rfl rfl (c_bad (dd := d) (hd := by omega) (hW := hW184)  (fk := fk2_183) (e_fk := show G180 16 = fk2_183 from (e187))    ) (fun o V' hq => ?_)
            obtain ⟨r328, rfl, rfl, b329, q330⟩ := hq
            refine .inr ⟨_, rfl, ?_⟩
            rcases q330 with ⟨rfl, a331⟩ | ⟨rfl, a332⟩
            · have _q : True := trivial
              refine jx_if_eq (pc' := 67) (tg := 71) rfl rfl rfl (by decide) (by decide) (fun h333 => ?_) (fun h333 => ?_)
              · have _q := h333
                exact absurd h333 (by omega)
              · have _q := h333
                refine jx_ar (pc' := 68) (st' := [.int (i32 (0))]) rfl rfl rfl rfl ?_
                refine jx_go (tg := 78) rfl rfl ?_
                refine jx_ld (pc' := 80) (l' := jSto1 L71 5 (.int (i32 (0)))) (st' := []) rfl rfl ?_
                obtain ⟨L334, eL334⟩ : ∃ q, q = jSto1 L71 5 (.int (i32 (0))) := ⟨_, rfl⟩
                rw [← eL334]
                have gL334_0 : jGet L334 0 = some (.ref 66) := eL334 ▸ jg_ne (by decide) gL71_0 rfl
                have gL334_1 : jGet L334 1 = some (.int (i32 (lv))) := eL334 ▸ jg_ne (by decide) gL71_1 rfl
                have gL334_2 : jGet L334 2 = some (.int (i32 (n))) := eL334 ▸ jg_ne (by decide) gL71_2 rfl
                have gL334_3 : jGet L334 3 = some (.int (i32 (last))) := eL334 ▸ jg_ne (by decide) gL71_3 rfl
                have gL334_4 : jGet L334 4 = some (.int (i32 (nd1))) := eL334 ▸ jg_ne (by decide) gL71_4 rfl
                have gL334_5 : jGet L334 5 = some (.int (i32 (0))) := eL334 ▸ jg_eq
                refine jx_ld (pc' := 81) (l' := L334) (st' := [.ref 66]) rfl (jl_aloadn gL334_0) ?_
                refine jx_vr (pc' := 84) (as := []) (st := []) rfl rfl rfl rfl ⟨rfl, rfl, Nat.le_of_ble_eq_true rfl⟩ rfl rfl (c_bad (dd := d) (hd := by omega) (hW := hW184)  (fk := fk2_183) (e_fk := show G180 16 = fk2_183 from (e187))    ) (fun o V' hq => ?_)
                obtain ⟨r335, rfl, rfl, b336, q337⟩ := hq
                refine .inr ⟨_, rfl, ?_⟩
                rcases q337 with ⟨rfl, a338⟩ | ⟨rfl, a339⟩
                · have _q : True := trivial
                  refine jx_if_eq (pc' := 87) (tg := 89) rfl rfl rfl (by decide) (by decide) (fun h340 => ?_) (fun h340 => ?_)
                  · have _q := h340
                    exact absurd h340 (by omega)
                  · have _q := h340
                    refine jx_ar (pc' := 88) (st' := [.int (i32 (0))]) rfl rfl rfl rfl ?_
                    refine jx_rt (v := some (.int (i32 (0)))) rfl rfl rfl rfl rfl rfl ?_
                    exact ⟨_, _, _, ln2_182, at2_75, fk2_183, nd2_78, sy1, na1, vi1, A 3 (ln2_182).toNat, ec2_80, rfl, rfl, hW184, hF189, hP190, hS191, hV192, by omega, (e186), ((hF185.1 10 rfl).trans (e85)), (e187), ((hF185.1 31 rfl).trans (e88)), ((hF185.1 19 rfl).trans ((hF82.1 19 rfl).trans ((hF57.1 19 rfl).trans ((hF35.1 19 rfl).trans ((hF7.1 19 rfl).trans (ex_sy1)))))), ((hF185.1 28 rfl).trans ((hF82.1 28 rfl).trans ((hF57.1 28 rfl).trans ((hF35.1 28 rfl).trans ((hF7.1 28 rfl).trans (ex_na1)))))), ((hF185.1 29 rfl).trans ((hF82.1 29 rfl).trans ((hF57.1 29 rfl).trans ((hF35.1 29 rfl).trans ((hF7.1 29 rfl).trans (ex_vi1)))))), (congrFun ((hF185.2 3 rfl).trans (((congrFun eA168 3).trans (uA_ne (by decide))).trans ((hF82.2 3 rfl).trans ((hF57.2 3 rfl).trans ((hF35.2 3 rfl).trans ((hF7.2 3 rfl).trans (hFx.2 3 rfl))))))) _), ec197, by omega, by omega, by omega, by omega, by omega, by omega, by omega, by omega, by omega, by omega, by first | exact Or.inl (⟨by omega, by omega⟩)⟩
                · have _q : True := trivial
                  exfalso
                  omega
            · have _q : True := trivial
              exfalso
              omega
    · have _q : True := trivial
      refine jx_if_eq (pc' := 29) (tg := 112) rfl rfl rfl (by decide) (by decide) (fun h341 => ?_) (fun h341 => ?_)
      · have _q := h341
        refine jx_ld (pc' := 113) (l' := L) (st' := [.ref 66]) rfl (jl_aloadn gL_0) ?_
        refine jx_vr (pc' := 116) (as := []) (st := []) rfl rfl rfl rfl ⟨rfl, rfl, Nat.le_of_ble_eq_true rfl⟩ rfl rfl (c_bad (dd := d) (hd := by omega) (hW := hW6)  (fk := fk2_5) (e_fk := show G2 16 = fk2_5 from (e9))    ) (fun o V' hq => ?_)
        obtain ⟨r342, rfl, rfl, b343, q344⟩ := hq
        refine .inr ⟨_, rfl, ?_⟩
        rcases q344 with ⟨rfl, a345⟩ | ⟨rfl, a346⟩
        · have _q : True := trivial
          refine jx_if_ne (pc' := 119) (tg := 131) rfl rfl rfl (by decide) (by decide) (fun h347 => ?_) (fun h347 => ?_)
          · have _q := h347
            refine jx_ld (pc' := 132) (l' := L) (st' := [.int (i32 (n))]) rfl (jl_iloadn gL_2) ?_
            refine jx_rt (v := some (.int (i32 (n)))) rfl rfl rfl rfl rfl rfl ?_
            exact ⟨_, _, _, ln1, at1, fk2_5, nd1, sy1, na1, vi1, lf1, ec1, rfl, rfl, hW6, hF11, hP12, hS13, hV14, by omega, ((hF7.1 9 rfl).trans (ex_ln1)), ((hF7.1 10 rfl).trans (ex_at1)), (e9), ((hF7.1 31 rfl).trans (ex_nd1)), ((hF7.1 19 rfl).trans (ex_sy1)), ((hF7.1 28 rfl).trans (ex_na1)), ((hF7.1 29 rfl).trans (ex_vi1)), (congrFun (hF7.2 3 rfl) _).trans (ex_lf1), ec17, by omega, by omega, by omega, by omega, by omega, by omega, by omega, by omega, by omega, by omega, by first | exact Or.inl (⟨by omega, by omega⟩)⟩
          · have _q := h347
            exact absurd h347 (by omega)
        · have _q : True := trivial
          exfalso
          omega
      · have _q := h341
        exact absurd h341 (by omega)
    · have _q : True := trivial
      refine jx_if_eq (pc' := 29) (tg := 112) rfl rfl rfl (by decide) (by decide) (fun h348 => ?_) (fun h348 => ?_)
      · have _q := h348
        refine jx_ld (pc' := 113) (l' := L) (st' := [.ref 66]) rfl (jl_aloadn gL_0) ?_
        refine jx_vr (pc' := 116) (as := []) (st := []) rfl rfl rfl rfl ⟨rfl, rfl, Nat.le_of_ble_eq_true rfl⟩ rfl rfl (c_bad (dd := d) (hd := by omega) (hW := hW6)  (fk := fk2_5) (e_fk := show G2 16 = fk2_5 from (e9))    ) (fun o V' hq => ?_)
        obtain ⟨r349, rfl, rfl, b350, q351⟩ := hq
        refine .inr ⟨_, rfl, ?_⟩
        rcases q351 with ⟨rfl, a352⟩ | ⟨rfl, a353⟩
        · have _q : True := trivial
          exfalso
          omega
        · have _q : True := trivial
          refine jx_if_ne (pc' := 119) (tg := 131) rfl rfl rfl (by decide) (by decide) (fun h354 => ?_) (fun h354 => ?_)
          · have _q := h354
            exact absurd h354 (by omega)
          · have _q := h354
            refine jx_ld (pc' := 120) (l' := L) (st' := [.int (i32 (last))]) rfl (jl_iloadn gL_3) ?_
            refine jx_if_ne (pc' := 123) (tg := 131) rfl rfl rfl (Int.le_trans (by decide : (-2147483648 : Int) ≤ -2147483648) rx_last.1) (Int.le_trans rx_last.2 (by decide : (2147483647 : Int) ≤ 2147483647)) (fun h355 => ?_) (fun h355 => ?_)
            · have _q := h355
              refine jx_ld (pc' := 132) (l' := L) (st' := [.int (i32 (n))]) rfl (jl_iloadn gL_2) ?_
              refine jx_rt (v := some (.int (i32 (n)))) rfl rfl rfl rfl rfl rfl ?_
              exact ⟨_, _, _, ln1, at1, fk2_5, nd1, sy1, na1, vi1, lf1, ec1, rfl, rfl, hW6, hF11, hP12, hS13, hV14, by omega, ((hF7.1 9 rfl).trans (ex_ln1)), ((hF7.1 10 rfl).trans (ex_at1)), (e9), ((hF7.1 31 rfl).trans (ex_nd1)), ((hF7.1 19 rfl).trans (ex_sy1)), ((hF7.1 28 rfl).trans (ex_na1)), ((hF7.1 29 rfl).trans (ex_vi1)), (congrFun (hF7.2 3 rfl) _).trans (ex_lf1), ec17, by omega, by omega, by omega, by omega, by omega, by omega, by omega, by omega, by omega, by omega, by first | exact Or.inr ((⟨by omega, by omega, by omega, by omega, by omega, by omega, by omega, (wS_ifc sf15 (CI_eq (CI_sb (by omega) sf16) rfl (by omega) (by omega) (by omega) (by omega)) (by omega)), (NX_nd sf15), by omega, by omega⟩))⟩
            · have _q := h355
              refine jx_ld (pc' := 124) (l' := L) (st' := [.ref 66]) rfl (jl_aloadn gL_0) ?_
              refine jx_ld (pc' := 125) (l' := L) (st' := [.int (i32 (lv)), .ref 66]) rfl (jl_iloadn gL_1) ?_
              refine jx_ar (pc' := 126) (st' := [.int (i32 (1)), .int (i32 (lv)), .ref 66]) rfl rfl rfl rfl ?_
              refine jx_add (pc' := 127) rfl rfl ?_
              refine jx_vr (pc' := 130) (as := [.int (i32 ((lv + 1)))]) (st := []) rfl rfl rfl rfl ⟨rfl, rfl, Nat.le_of_ble_eq_true rfl⟩ rfl rfl (c_needLevel (dd := d) (hd := by omega) (hW := hW6) (lv := (lv + 1)) (ln := ln1) (e_ln := show G2 9 = ln1 from ((hF7.1 9 rfl).trans (ex_ln1))) (li := li) (e_li := show G2 3 = li from ((hF7.1 3 rfl).trans ((hFx.1 3 rfl).trans (e_li)))) (fk := fk2_5) (e_fk := show G2 16 = fk2_5 from (e9)) (ll := A 5 (ln1).toNat) (e_ll := show A3 5 (ln1).toNat = A 5 (ln1).toNat from (congrFun ((hF7.2 5 rfl).trans (hFx.2 5 rfl)) _))  (h_lv := ⟨(by omega), (by omega)⟩)  ) (fun o V' hq => ?_)
              obtain ⟨G356, A357, r358, fk2_359, rfl, rfl, hW360, hF361, b362, e363, q364⟩ := hq
              have hF365 := Fr_tr hF11 hF361 (Fr_sub (by decide)) (Fr_sub (by decide))
              have hP366 := Pf_f hP12 hF361 (by decide)
              have hS367 := Fx_f hS13 hF361 (by decide)
              have hV368 := Fx_f hV14 hF361 (by decide)
              have sf369 : ND A357 (n) (30) (0) (0) (0) (0) (Ax 21 (n).toNat) (0) := ND_ag (by omega) (Ag_fr hF361 (by decide)) sf15
              have sf370 : CI 1 A357 (sy1) pb (k) (Vs) (n) (last) (n + 1) (nd1) (sy) (sy1) := CI_ag (by omega) (by omega) (Sg_fr hF361 (by decide)) (Qg_fr hF361 (by decide)) (Ag_fr hF361 (by decide)) (congrFun (hF361.2 21 rfl) _) sf16
              have ec371 : ecn A357 (G356 31) = ec1 := (ecn_f (hF361.2 15 rfl) (hF361.1 31 rfl)).trans ec17
              have bfk2_359 : (0 : Int) ≤ fk2_359 ∧ fk2_359 ≤ 6 := e363 ▸ hW360.1 16
              refine .inr ⟨_, rfl, ?_⟩
              rcases q364 with ⟨rfl, a372, a373, a374, a375⟩ | ⟨rfl, a376⟩
              · have _q : True := trivial
                have b377 : (0 : Int) ≤ A 4 (ln1).toNat ∧ A 4 (ln1).toNat ≤ 3000 := hW.2 4 _
                have lt378 : lf1 < A 4 (ln1).toNat := LT_at (LT_ext (((hF361.1 3 rfl).trans ((hF7.1 3 rfl).trans (hFx.1 3 rfl)))) (((hF361.2 3 rfl).trans ((hF7.2 3 rfl).trans (hFx.2 3 rfl)))) (((hF361.2 4 rfl).trans ((hF7.2 4 rfl).trans (hFx.2 4 rfl)))) i_LT) (show G356 3 = li from ((hF361.1 3 rfl).trans ((hF7.1 3 rfl).trans ((hFx.1 3 rfl).trans (e_li))))) (show A357 3 (ln1).toNat = lf1 from (congrFun ((hF361.2 3 rfl).trans (hF7.2 3 rfl)) _).trans (ex_lf1)) (show A357 4 (ln1).toNat = A 4 (ln1).toNat from (congrFun ((hF361.2 4 rfl).trans ((hF7.2 4 rfl).trans (hFx.2 4 rfl))) _)) (by omega) (by omega)
                refine jx_ar (pc' := 131) (st' := []) rfl rfl rfl rfl ?_
                refine jx_ld (pc' := 132) (l' := L) (st' := [.int (i32 (n))]) rfl (jl_iloadn gL_2) ?_
                refine jx_rt (v := some (.int (i32 (n)))) rfl rfl rfl rfl rfl rfl ?_
                exact ⟨_, _, _, ln1, at1, fk2_359, nd1, sy1, na1, vi1, lf1, ec1, rfl, rfl, hW360, hF365, hP366, hS367, hV368, by omega, ((hF361.1 9 rfl).trans ((hF7.1 9 rfl).trans (ex_ln1))), ((hF361.1 10 rfl).trans ((hF7.1 10 rfl).trans (ex_at1))), (e363), ((hF361.1 31 rfl).trans ((hF7.1 31 rfl).trans (ex_nd1))), ((hF361.1 19 rfl).trans ((hF7.1 19 rfl).trans (ex_sy1))), ((hF361.1 28 rfl).trans ((hF7.1 28 rfl).trans (ex_na1))), ((hF361.1 29 rfl).trans ((hF7.1 29 rfl).trans (ex_vi1))), (congrFun ((hF361.2 3 rfl).trans (hF7.2 3 rfl)) _).trans (ex_lf1), ec371, by omega, by omega, by omega, by omega, by omega, by omega, by omega, by omega, by omega, by omega, by first | exact Or.inr ((⟨by omega, by omega, by omega, by omega, by omega, by omega, by omega, (wS_ifc sf369 (CI_eq (CI_sb (by omega) sf370) rfl (by omega) (by omega) (by omega) (by omega)) (by omega)), (NX_nd sf369), by omega, by omega⟩))⟩
              · have _q : True := trivial
                refine jx_ar (pc' := 131) (st' := []) rfl rfl rfl rfl ?_
                refine jx_ld (pc' := 132) (l' := L) (st' := [.int (i32 (n))]) rfl (jl_iloadn gL_2) ?_
                refine jx_rt (v := some (.int (i32 (n)))) rfl rfl rfl rfl rfl rfl ?_
                exact ⟨_, _, _, ln1, at1, fk2_359, nd1, sy1, na1, vi1, lf1, ec1, rfl, rfl, hW360, hF365, hP366, hS367, hV368, by omega, ((hF361.1 9 rfl).trans ((hF7.1 9 rfl).trans (ex_ln1))), ((hF361.1 10 rfl).trans ((hF7.1 10 rfl).trans (ex_at1))), (e363), ((hF361.1 31 rfl).trans ((hF7.1 31 rfl).trans (ex_nd1))), ((hF361.1 19 rfl).trans ((hF7.1 19 rfl).trans (ex_sy1))), ((hF361.1 28 rfl).trans ((hF7.1 28 rfl).trans (ex_na1))), ((hF361.1 29 rfl).trans ((hF7.1 29 rfl).trans (ex_vi1))), (congrFun ((hF361.2 3 rfl).trans (hF7.2 3 rfl)) _).trans (ex_lf1), ec371, by omega, by omega, by omega, by omega, by omega, by omega, by omega, by omega, by omega, by omega, by first | exact Or.inl (⟨by omega, by omega⟩)⟩
      · have _q := h348
        exact absurd h348 (by omega)
set_option maxRecDepth 20000 in
set_option maxHeartbeats 4000000 in
theorem c_readIf_w {X : jX} {k : Nat} (hP : RPw X k) {dd : Nat} {Vs : Nat → Prop} {sb pb : Int} (hvb : VB Vs sb) {c0 c1 : jC} {G : Nat → Int} {A : Nat → Nat → Int} {T : jH} {lv : Int} {ln li at0 fk nd sy na vi le op0 tk0 ec : Int} (hd : 8 * k + 82 ≤ dd) (hW : Wk G A) (e_ln : G 9 = ln) (e_li : G 3 = li) (e_at0 : G 10 = at0) (e_fk : G 16 = fk) (e_nd : G 31 = nd) (e_sy : G 19 = sy) (e_na : G 28 = na) (e_vi : G 29 = vi) (e_le : A 4 (ln).toNat = le) (e_op0 : G 15 = op0) (e_tk0 : G 11 = tk0) (e_ec : ecn A (G 31) = ec) (i_LT : LT G A) (i_SV : SV Vs sb G A) (i_PQ : PQ Vs sb pb G A) (h_lv : (-2147483648 : Int) ≤ lv ∧ lv ≤ 2147483647) (p_0 : 0 ≤ lv ∧ lv ≤ 15) (p_1 : 18 - lv ≤ ((k + 1 : Nat) : Int)) (p_2 : fk = 0) (p_3 : ln < li) (p_4 : at0 ≤ le) (p_5 : op0 = 0) (p_6 : nd ≤ 2 * at0 - tz tk0 + 30) (p_7 : sy ≤ na + 2) (p_8 : vi ≤ sy) (p_9 : sb = sy) (p_10 : 1 ≤ tk0) : wk X dd 301 [.ref 66, .int (i32 lv)] (rV c0 c1 G A T) (fun o V' => ∃ (G' : Nat → Int) (A' : Nat → Nat → Int) (r : Int) (ln2 : Int) (at2 : Int) (fk2 : Int) (nd2 : Int) (sy2 : Int) (na2 : Int) (vi2 : Int) (lf2 : Int) (ec2 : Int), V' = rV c0 c1 G' A' T ∧ o = .inl (some (.int (i32 r))) ∧ Wk G' A' ∧ Fr [9, 10, 11, 12, 13, 14, 15, 16, 17, 18, 19, 28, 29, 31] [6, 7, 8, 9, 10, 11, 12, 14, 15, 16, 17, 18, 19, 20, 21, 22, 23, 24, 28] G A G' A' ∧ Pf nd A A' ∧ Fx sr (sy) A A' ∧ Fx [14] (vi) A A' ∧ ((-2147483648 : Int) ≤ r ∧ r ≤ 2147483647) ∧ G' 9 = ln2 ∧ G' 10 = at2 ∧ G' 16 = fk2 ∧ G' 31 = nd2 ∧ G' 19 = sy2 ∧ G' 28 = na2 ∧ G' 29 = vi2 ∧ A' 3 (ln2).toNat = lf2 ∧ ecn A' (G' 31) = ec2 ∧ (at0 ≤ at2) ∧ (nd ≤ nd2) ∧ (sy ≤ sy2) ∧ (sy2 ≤ na2 + 2) ∧ (vi ≤ vi2) ∧ (vi2 ≤ vi + 1) ∧ (0 ≤ r) ∧ (r ≤ 6999) ∧ (ln ≤ ln2) ∧ (ln2 ≤ li) ∧ (((1 ≤ fk2) ∧ (nd2 - nd ≤ 2 * at2 - (2 * at0 - tz tk0) + 14)) ∨ ((fk2 = 0) ∧ (vi2 = vi) ∧ (ln < ln2) ∧ (nd2 - nd ≤ 2 * at2 - (2 * at0 - tz tk0)) ∧ (at2 < lf2 ∨ li ≤ ln2) ∧ (nd ≤ r) ∧ (r < nd2) ∧ (wSt A' (sy2) pb (wP A' (sy2) pb (k)) (Vs) (r) (nd) (nd2) (sy) (sy2)) ∧ (NX A' (r)) ∧ (nd2 - nd + 5 * (ec2 - ec) ≤ 2 * at2 - (2 * at0 - tz tk0)) ∧ (nd + 5 * ec ≤ r)))) := by
  obtain ⟨d, rfl⟩ : ∃ d, dd = d + 1 := ⟨dd - 1, by omega⟩
  refine wk_of (e := jm301) rfl (Nat.le_of_ble_eq_true rfl) ?_
  show wj X d jm301 (0, [(0, .ref 66), (1, .int (i32 (lv)))], [], rV c0 c1 G A T) _
  have hF0 : Fr [9, 10, 11, 12, 13, 14, 15, 16, 17, 18, 19, 28, 29, 31] [6, 7, 8, 9, 10, 11, 12, 14, 15, 16, 17, 18, 19, 20, 21, 22, 23, 24, 28] G A G A := Fr_rf
  have hP0 : Pf nd A A := Pf_rf
  have hS0 : Fx sr (sy) A A := Fx_rf
  have hV0 : Fx [14] (vi) A A := Fx_rf
  have b_ln : (0 : Int) ≤ ln ∧ ln ≤ 3000 := e_ln ▸ hW.1 9
  have b_li : (0 : Int) ≤ li ∧ li ≤ 3000 := e_li ▸ hW.1 3
  have b_at0 : (0 : Int) ≤ at0 ∧ at0 ≤ 3002 := e_at0 ▸ hW.1 10
  have b_fk : (0 : Int) ≤ fk ∧ fk ≤ 6 := e_fk ▸ hW.1 16
  have b_nd : (0 : Int) ≤ nd ∧ nd ≤ 6999 := e_nd ▸ hW.1 31
  have b_sy : (0 : Int) ≤ sy ∧ sy ≤ 202 := e_sy ▸ hW.1 19
  have b_na : (0 : Int) ≤ na ∧ na ≤ 200 := e_na ▸ hW.1 28
  have b_vi : (0 : Int) ≤ vi ∧ vi ≤ 202 := e_vi ▸ hW.1 29
  have b_le : (0 : Int) ≤ le ∧ le ≤ 3000 := e_le ▸ hW.2 4 _
  have b_op0 : (-2147483648 : Int) ≤ op0 ∧ op0 ≤ 2147483647 := e_op0 ▸ hW.1 15
  have z_tk0 := tz_f tk0
  have b_tk0 : (0 : Int) ≤ tk0 ∧ tk0 ≤ 5 := e_tk0 ▸ hW.1 11
  refine jx_ld (pc' := 1) (l' := [(0, .ref 66), (1, .int (i32 (lv)))]) (st' := [.ref 66]) rfl (jl_aloadn rfl) ?_
  refine jx_ar (pc' := 3) (st' := [.int (i32 (30)), .ref 66]) rfl rfl rfl rfl ?_
  refine jx_ar (pc' := 4) (st' := [.int (i32 (0)), .int (i32 (30)), .ref 66]) rfl rfl rfl rfl ?_
  refine jx_ar (pc' := 5) (st' := [.int (i32 (0)), .int (i32 (0)), .int (i32 (30)), .ref 66]) rfl rfl rfl rfl ?_
  refine jx_ar (pc' := 6) (st' := [.int (i32 (0)), .int (i32 (0)), .int (i32 (0)), .int (i32 (30)), .ref 66]) rfl rfl rfl rfl ?_
  refine jx_ar (pc' := 7) (st' := [.int (i32 (0)), .int (i32 (0)), .int (i32 (0)), .int (i32 (0)), .int (i32 (30)), .ref 66]) rfl rfl rfl rfl ?_
  refine jx_vr (pc' := 10) (as := [.int (i32 (30)), .int (i32 (0)), .int (i32 (0)), .int (i32 (0)), .int (i32 (0))]) (st := []) rfl rfl rfl rfl ⟨rfl, rfl, Nat.le_of_ble_eq_true rfl⟩ rfl rfl (c_node_o (dd := d) (hd := by omega) (hW := hW) (kind := 30) (a := 0) (b := 0) (c := 0) (e := 0) (nd := nd) (e_nd := show G 31 = nd from (e_nd)) (ec := ec) (e_ec := show ecn A (G 31) = ec from e_ec)  (h_kind := ⟨(by decide), (by decide)⟩) (h_a := ⟨(by decide), (by decide)⟩) (h_b := ⟨(by decide), (by decide)⟩) (h_c := ⟨(by decide), (by decide)⟩) (h_e := ⟨(by decide), (by decide)⟩)  (p_0 := by omega) (p_1 := by omega) (p_2 := by omega)) (fun o V' hq => ?_)
  obtain ⟨G379, A380, nd2_381, ec2_382, rfl, rfl, hW383, hF384, hQ385, e386, e387, p388, p389, p390, -⟩ := hq
  have hF392 := Fr_tr hF0 hF384 (Fr_sub (by decide)) (Fr_sub (by decide))
  have hP393 := Pf_tr hP0 hQ385 (by omega)
  have hS394 := Fx_f hS0 hF384 (by decide)
  have hV395 := Fx_f hV0 hF384 (by decide)
  have bnd2_381 : (0 : Int) ≤ nd2_381 ∧ nd2_381 ≤ 6999 := e386 ▸ hW383.1 31
  refine .inr ⟨_, rfl, ?_⟩
  refine jx_ld (pc' := 11) (l' := jSto1 [(0, .ref 66), (1, .int (i32 (lv)))] 2 (.int (i32 (nd)))) (st' := []) rfl rfl ?_
  obtain ⟨L396, eL396⟩ : ∃ q, q = jSto1 [(0, .ref 66), (1, .int (i32 (lv)))] 2 (.int (i32 (nd))) := ⟨_, rfl⟩
  rw [← eL396]
  have gL396_0 : jGet L396 0 = some (.ref 66) := eL396 ▸ jg_ne (by decide) (rfl : jGet [(0, .ref 66), (1, .int (i32 (lv)))] 0 = some (.ref 66)) rfl
  have gL396_1 : jGet L396 1 = some (.int (i32 (lv))) := eL396 ▸ jg_ne (by decide) (rfl : jGet [(0, .ref 66), (1, .int (i32 (lv)))] 1 = some (.int (i32 (lv)))) rfl
  have gL396_2 : jGet L396 2 = some (.int (i32 (nd))) := eL396 ▸ jg_eq
  refine jx_ld (pc' := 12) (l' := L396) (st' := [.ref 66]) rfl (jl_aloadn gL396_0) ?_
  refine jx_vr (pc' := 15) (as := []) (st := []) rfl rfl rfl rfl ⟨rfl, rfl, Nat.le_of_ble_eq_true rfl⟩ rfl rfl (c_next (dd := d) (hd := by omega) (hW := hW383)  (ln := ln) (e_ln := show G379 9 = ln from ((hF384.1 9 rfl).trans (e_ln))) (le := le) (e_le := show A380 4 (ln).toNat = le from (congrFun (hF384.2 4 rfl) _).trans (e_le)) (at0 := at0) (e_at0 := show G379 10 = at0 from ((hF384.1 10 rfl).trans (e_at0)))    (p_0 := by omega)) (fun o V' hq => ?_)
  obtain ⟨G397, A398, at2_399, tk2_400, rfl, rfl, hW401, hF402, e403, e404, p405, p406, p407, -⟩ := hq
  have hF409 := Fr_tr hF392 hF402 (Fr_sub (by decide)) (Fr_sub (by decide))
  have hP410 := Pf_f hP393 hF402 (by decide)
  have hS411 := Fx_f hS394 hF402 (by decide)
  have hV412 := Fx_f hV395 hF402 (by decide)
  have sf413 : ND A398 (nd) (30) (0) (0) (0) (0) (0) (0) := ND_ag (by omega) (Ag_fr hF402 (by decide)) p390
  have ec414 : ecn A398 (G397 31) = ec2_382 := (ecn_f (hF402.2 15 rfl) (hF402.1 31 rfl)).trans e387
  have bat2_399 : (0 : Int) ≤ at2_399 ∧ at2_399 ≤ 3002 := e403 ▸ hW401.1 10
  have ztk2_400 := tz_b tk2_400
  have btk2_400 : (0 : Int) ≤ tk2_400 ∧ tk2_400 ≤ 5 := e404 ▸ hW401.1 11
  refine .inl ⟨rfl, ?_⟩
  have pz415 : at0 + tz tk2_400 ≤ at2_399 := by omega
  refine jx_ld (pc' := 16) (l' := L396) (st' := [.ref 66]) rfl (jl_aloadn gL396_0) ?_
  refine jx_vr (pc' := 19) (as := []) (st := []) rfl rfl rfl rfl ⟨rfl, rfl, Nat.le_of_ble_eq_true rfl⟩ rfl rfl (c_endLine (dd := d) (hd := by omega) (hW := hW401)  (ln := ln) (e_ln := show G397 9 = ln from ((hF402.1 9 rfl).trans ((hF384.1 9 rfl).trans (e_ln)))) (li := li) (e_li := show G397 3 = li from ((hF402.1 3 rfl).trans ((hF384.1 3 rfl).trans (e_li)))) (fk := fk) (e_fk := show G397 16 = fk from ((hF402.1 16 rfl).trans ((hF384.1 16 rfl).trans (e_fk)))) (tk0 := tk2_400) (e_tk0 := show G397 11 = tk2_400 from (e404))    (p_0 := by omega)) (fun o V' hq => ?_)
  obtain ⟨G416, A417, ln2_418, fk2_419, rfl, rfl, hW420, hF421, e422, e423, q424⟩ := hq
  have hF425 := Fr_tr hF409 hF421 (Fr_sub (by decide)) (Fr_sub (by decide))
  have hP426 := Pf_f hP410 hF421 (by decide)
  have hS427 := Fx_f hS411 hF421 (by decide)
  have hV428 := Fx_f hV412 hF421 (by decide)
  have sf429 : ND A417 (nd) (30) (0) (0) (0) (0) (0) (0) := ND_ag (by omega) (Ag_fr hF421 (by decide)) sf413
  have ec430 : ecn A417 (G416 31) = ec2_382 := (ecn_f (hF421.2 15 rfl) (hF421.1 31 rfl)).trans ec414
  have bln2_418 : (0 : Int) ≤ ln2_418 ∧ ln2_418 ≤ 3000 := e422 ▸ hW420.1 9
  have bfk2_419 : (0 : Int) ≤ fk2_419 ∧ fk2_419 ≤ 6 := e423 ▸ hW420.1 16
  refine .inl ⟨rfl, ?_⟩
  rcases q424 with ⟨a431, a432, a433, a434, a435⟩ | ⟨a436, a437⟩
  · have _q : True := trivial
    have b438 : (0 : Int) ≤ A 3 (ln2_418).toNat ∧ A 3 (ln2_418).toNat ≤ 3000 := hW.2 3 _
    have lt439 : ln2_418 < li → le < A 3 (ln2_418).toNat := fun hh => LT_nx (LT_ext (((hF421.1 3 rfl).trans ((hF402.1 3 rfl).trans (hF384.1 3 rfl)))) (((hF421.2 3 rfl).trans ((hF402.2 3 rfl).trans (hF384.2 3 rfl)))) (((hF421.2 4 rfl).trans ((hF402.2 4 rfl).trans (hF384.2 4 rfl)))) i_LT) (show G416 3 = li from ((hF421.1 3 rfl).trans ((hF402.1 3 rfl).trans ((hF384.1 3 rfl).trans (e_li))))) (show A417 4 (ln).toNat = le from (congrFun ((hF421.2 4 rfl).trans ((hF402.2 4 rfl).trans (hF384.2 4 rfl))) _).trans (e_le)) (show A417 3 (ln2_418).toNat = A 3 (ln2_418).toNat from (congrFun ((hF421.2 3 rfl).trans ((hF402.2 3 rfl).trans (hF384.2 3 rfl))) _)) (show ln2_418 = ln + 1 by omega) (by omega) hh
    refine jx_ar (pc' := 20) (st' := [.int (i32 (0))]) rfl rfl rfl rfl ?_
    refine jx_ld (pc' := 21) (l' := jSto1 L396 3 (.int (i32 (0)))) (st' := []) rfl rfl ?_
    obtain ⟨L440, eL440⟩ : ∃ q, q = jSto1 L396 3 (.int (i32 (0))) := ⟨_, rfl⟩
    rw [← eL440]
    have gL440_0 : jGet L440 0 = some (.ref 66) := eL440 ▸ jg_ne (by decide) gL396_0 rfl
    have gL440_1 : jGet L440 1 = some (.int (i32 (lv))) := eL440 ▸ jg_ne (by decide) gL396_1 rfl
    have gL440_2 : jGet L440 2 = some (.int (i32 (nd))) := eL440 ▸ jg_ne (by decide) gL396_2 rfl
    have gL440_3 : jGet L440 3 = some (.int (i32 (0))) := eL440 ▸ jg_eq
    exact c_readIf_w_at_21 (X := X) (k := k) (hP := hP) (d := d) (Vs := Vs) (sb := sb) (pb := pb) (hvb := hvb) (c0 := c0) (c1 := c1) (G := G) (A := A) (T := T) (lv := lv) (ln := ln) (li := li) (at0 := at0) (fk := fk) (nd := nd) (sy := sy) (na := na) (vi := vi) (le := le) (op0 := op0) (tk0 := tk0) (ec := ec) (hd := hd) (hW := hW) (e_ln := e_ln) (e_li := e_li) (e_at0 := e_at0) (e_fk := e_fk) (e_nd := e_nd) (e_sy := e_sy) (e_na := e_na) (e_vi := e_vi) (e_le := e_le) (e_op0 := e_op0) (e_tk0 := e_tk0) (e_ec := e_ec) (i_LT := i_LT) (i_SV := i_SV) (i_PQ := i_PQ) (h_lv := h_lv) (p_0 := p_0) (p_1 := p_1) (p_2 := p_2) (p_3 := p_3) (p_4 := p_4) (p_5 := p_5) (p_6 := p_6) (p_7 := p_7) (p_8 := p_8) (p_9 := p_9) (p_10 := p_10) _ L440 G416 A417 (nd) (0) (ln2_418) (at2_399) (fk2_419) (nd2_381) (sy) (na) (vi) (A 3 (ln2_418).toNat) (ec2_382) rfl gL440_0 gL440_1 gL440_2 gL440_3 hW420 hF425 hP426 hS427 hV428 ((e422)) (((hF421.1 10 rfl).trans (e403))) ((e423)) (((hF421.1 31 rfl).trans ((hF402.1 31 rfl).trans (e386)))) (((hF421.1 19 rfl).trans ((hF402.1 19 rfl).trans ((hF384.1 19 rfl).trans (e_sy))))) (((hF421.1 28 rfl).trans ((hF402.1 28 rfl).trans ((hF384.1 28 rfl).trans (e_na))))) (((hF421.1 29 rfl).trans ((hF402.1 29 rfl).trans ((hF384.1 29 rfl).trans (e_vi))))) ((congrFun ((hF421.2 3 rfl).trans ((hF402.2 3 rfl).trans (hF384.2 3 rfl))) _)) (ec430) (by omega) (by omega) (by omega) (by omega) (by omega) (by omega) (by omega) (by omega) (by omega) (by omega) (by omega) (by omega) (by omega) (by omega) (by omega) (by omega) ((ND_sf sf429)) ((CI_nil (ND_f0 sf429) (by omega) (by omega))) (by omega) (by omega)
  · have _q : True := trivial
    refine jx_ar (pc' := 20) (st' := [.int (i32 (0))]) rfl rfl rfl rfl ?_
    refine jx_ld (pc' := 21) (l' := jSto1 L396 3 (.int (i32 (0)))) (st' := []) rfl rfl ?_
    obtain ⟨L441, eL441⟩ : ∃ q, q = jSto1 L396 3 (.int (i32 (0))) := ⟨_, rfl⟩
    rw [← eL441]
    have gL441_0 : jGet L441 0 = some (.ref 66) := eL441 ▸ jg_ne (by decide) gL396_0 rfl
    have gL441_1 : jGet L441 1 = some (.int (i32 (lv))) := eL441 ▸ jg_ne (by decide) gL396_1 rfl
    have gL441_2 : jGet L441 2 = some (.int (i32 (nd))) := eL441 ▸ jg_ne (by decide) gL396_2 rfl
    have gL441_3 : jGet L441 3 = some (.int (i32 (0))) := eL441 ▸ jg_eq
    refine jx_ld (pc' := 22) (l' := L441) (st' := [.ref 66]) rfl (jl_aloadn gL441_0) ?_
    refine jx_ld (pc' := 23) (l' := L441) (st' := [.int (i32 (lv)), .ref 66]) rfl (jl_iloadn gL441_1) ?_
    have b442 : (-1 : Int) ≤ A 5 (ln2_418).toNat ∧ A 5 (ln2_418).toNat ≤ 15 := hW.2 5 _
    refine jx_vr (pc' := 26) (as := [.int (i32 (lv))]) (st := []) rfl rfl rfl rfl ⟨rfl, rfl, Nat.le_of_ble_eq_true rfl⟩ rfl rfl (c_isBelow (dd := d) (hd := by omega) (hW := hW420) (lv := lv) (ln := ln2_418) (e_ln := show G416 9 = ln2_418 from (e422)) (li := li) (e_li := show G416 3 = li from ((hF421.1 3 rfl).trans ((hF402.1 3 rfl).trans ((hF384.1 3 rfl).trans (e_li))))) (fk := fk2_419) (e_fk := show G416 16 = fk2_419 from (e423)) (ll := A 5 (ln2_418).toNat) (e_ll := show A417 5 (ln2_418).toNat = A 5 (ln2_418).toNat from (congrFun ((hF421.2 5 rfl).trans ((hF402.2 5 rfl).trans (hF384.2 5 rfl))) _))  (h_lv := ⟨(Int.le_trans (by decide : (-2147483648 : Int) ≤ -2147483648) h_lv.1), (Int.le_trans h_lv.2 (by decide : (2147483647 : Int) ≤ 2147483647))⟩)  (p_0 := by omega)) (fun o V' hq => ?_)
    obtain ⟨G443, A444, r445, fk2_446, rfl, rfl, hW447, hF448, b449, e450, q451⟩ := hq
    have hF452 := Fr_tr hF425 hF448 (Fr_sub (by decide)) (Fr_sub (by decide))
    have hP453 := Pf_f hP426 hF448 (by decide)
    have hS454 := Fx_f hS427 hF448 (by decide)
    have hV455 := Fx_f hV428 hF448 (by decide)
    have sf456 : ND A444 (nd) (30) (0) (0) (0) (0) (0) (0) := ND_ag (by omega) (Ag_fr hF448 (by decide)) sf429
    have ec457 : ecn A444 (G443 31) = ec2_382 := (ecn_f (hF448.2 15 rfl) (hF448.1 31 rfl)).trans ec430
    have bfk2_446 : (0 : Int) ≤ fk2_446 ∧ fk2_446 ≤ 6 := e450 ▸ hW447.1 16
    refine .inr ⟨_, rfl, ?_⟩
    rcases q451 with ⟨rfl, a458, a459, a460, a461⟩ | ⟨rfl, a462⟩ | ⟨rfl, a463, a464, a465⟩
    · have _q : True := trivial
      exfalso
      omega
    · have _q : True := trivial
      refine jx_if_eq (pc' := 29) (tg := 112) rfl rfl rfl (by decide) (by decide) (fun h466 => ?_) (fun h466 => ?_)
      · have _q := h466
        refine jx_ld (pc' := 113) (l' := L441) (st' := [.ref 66]) rfl (jl_aloadn gL441_0) ?_
        refine jx_vr (pc' := 116) (as := []) (st := []) rfl rfl rfl rfl ⟨rfl, rfl, Nat.le_of_ble_eq_true rfl⟩ rfl rfl (c_bad (dd := d) (hd := by omega) (hW := hW447)  (fk := fk2_446) (e_fk := show G443 16 = fk2_446 from (e450))    ) (fun o V' hq => ?_)
        obtain ⟨r467, rfl, rfl, b468, q469⟩ := hq
        refine .inr ⟨_, rfl, ?_⟩
        rcases q469 with ⟨rfl, a470⟩ | ⟨rfl, a471⟩
        · have _q : True := trivial
          refine jx_if_ne (pc' := 119) (tg := 131) rfl rfl rfl (by decide) (by decide) (fun h472 => ?_) (fun h472 => ?_)
          · have _q := h472
            refine jx_ld (pc' := 132) (l' := L441) (st' := [.int (i32 (nd))]) rfl (jl_iloadn gL441_2) ?_
            refine jx_rt (v := some (.int (i32 (nd)))) rfl rfl rfl rfl rfl rfl ?_
            exact ⟨_, _, _, ln2_418, at2_399, fk2_446, nd2_381, sy, na, vi, A 3 (ln2_418).toNat, ec2_382, rfl, rfl, hW447, hF452, hP453, hS454, hV455, by omega, ((hF448.1 9 rfl).trans (e422)), ((hF448.1 10 rfl).trans ((hF421.1 10 rfl).trans (e403))), (e450), ((hF448.1 31 rfl).trans ((hF421.1 31 rfl).trans ((hF402.1 31 rfl).trans (e386)))), ((hF448.1 19 rfl).trans ((hF421.1 19 rfl).trans ((hF402.1 19 rfl).trans ((hF384.1 19 rfl).trans (e_sy))))), ((hF448.1 28 rfl).trans ((hF421.1 28 rfl).trans ((hF402.1 28 rfl).trans ((hF384.1 28 rfl).trans (e_na))))), ((hF448.1 29 rfl).trans ((hF421.1 29 rfl).trans ((hF402.1 29 rfl).trans ((hF384.1 29 rfl).trans (e_vi))))), (congrFun ((hF448.2 3 rfl).trans ((hF421.2 3 rfl).trans ((hF402.2 3 rfl).trans (hF384.2 3 rfl)))) _), ec457, by omega, by omega, by omega, by omega, by omega, by omega, by omega, by omega, by omega, by omega, by first | exact Or.inl (⟨by omega, by omega⟩)⟩
          · have _q := h472
            exact absurd h472 (by omega)
        · have _q : True := trivial
          exfalso
          omega
      · have _q := h466
        exact absurd h466 (by omega)
    · have _q : True := trivial
      exfalso
      omega
