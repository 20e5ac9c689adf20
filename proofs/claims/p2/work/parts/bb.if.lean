set_option maxRecDepth 20000 in
set_option maxHeartbeats 4000000 in
theorem c_readIf_w_at_21 {X : jX} {k : Nat} (hP : RPw X k) {d : Nat} {Vs : Nat → Prop} {sb pb : Int} (hvb : VB Vs sb) {c0 c1 : jC} {G : Nat → Int} {A : Nat → Nat → Int} {T : jH} {lv : Int} {ln li at0 fk nd sy na vi le op0 tk0 ec : Int} (hd : 8 * k + 82 ≤ d + 1) (hW : Wk G A) (e_ln : G 9 = ln) (e_li : G 3 = li) (e_at0 : G 10 = at0) (e_fk : G 16 = fk) (e_nd : G 31 = nd) (e_sy : G 19 = sy) (e_na : G 28 = na) (e_vi : G 29 = vi) (e_le : A 4 (ln).toNat = le) (e_op0 : G 15 = op0) (e_tk0 : G 11 = tk0) (e_ec : ecn A (G 31) = ec) (i_LT : LT G A) (i_SV : SV Vs sb G A) (i_PQ : PQ Vs sb pb G A) (h_lv : (-2147483648 : Int) ≤ lv ∧ lv ≤ 2147483647) (p_0 : 0 ≤ lv ∧ lv ≤ 15) (p_1 : 18 - lv ≤ ((k + 1 : Nat) : Int)) (p_2 : fk = 0) (p_3 : ln < li) (p_4 : at0 ≤ le) (p_5 : op0 = 0) (p_6 : nd ≤ 2 * at0 - tz tk0 + 30) (p_7 : sy ≤ na + 2) (p_8 : vi ≤ sy) (p_9 : sb = sy) (p_10 : 1 ≤ tk0) : ∀ (m : Nat) (L : jL) (Gx : Nat → Int) (Ax : Nat → Nat → Int) (n last ln1 at1 fk1 nd1 sy1 na1 vi1 lf1 ec1 : Int), (li - ln1).toNat = m → jGet L 0 = some (.ref 66) → jGet L 1 = some (.int (i32 (lv))) → jGet L 2 = some (.int (i32 n)) → jGet L 3 = some (.int (i32 last)) → Wk Gx Ax → Fr [9, 10, 11, 12, 13, 14, 15, 16, 17, 18, 19, 28, 29, 31] [6, 7, 8, 9, 10, 11, 12, 14, 15, 16, 17, 18, 19, 20, 21, 22, 23, 24, 28] G A Gx Ax → Pf nd A Ax → Fx sr (sy) A Ax → Fx [14] (vi) A Ax → Gx 9 = ln1 → Gx 10 = at1 → Gx 16 = fk1 → Gx 31 = nd1 → Gx 19 = sy1 → Gx 28 = na1 → Gx 29 = vi1 → Ax 3 (ln1).toNat = lf1 → ecn Ax (Gx 31) = ec1 → ((-2147483648 : Int) ≤ n ∧ n ≤ 2147483647) → ((-2147483648 : Int) ≤ last ∧ last ≤ 2147483647) → (fk1 = 0) → (at0 ≤ at1) → (nd ≤ n ∧ n ≤ 6998 ∧ n < nd1) → (sy ≤ sy1) → (sy1 ≤ na1 + 2) → (vi1 = vi) → (ln < ln1) → (ln1 ≤ li) → (nd1 - nd ≤ 2 * at1 - (2 * at0 - tz tk0)) → (at1 < lf1 ∨ li ≤ ln1) → (n = nd) → (0 ≤ last ∧ last ≤ 6998) → (last = 0 ∨ n < last) → (last < nd1) → (ND Ax (n) (30) (0) (0) (0) (0) (Ax 21 (n).toNat) (0)) → (CI 1 Ax (sy1) pb (k) (Vs) (n) (last) (n + 1) (nd1) (sy) (sy1)) → (nd1 - nd + 5 * (ec1 - ec) ≤ 2 * at1 - (2 * at0 - tz tk0)) → wj X d jm301 (21, L, [], rV c0 c1 Gx Ax T) (fun o V' => ∃ (G' : Nat → Int) (A' : Nat → Nat → Int) (r : Int) (ln2 : Int) (at2 : Int) (fk2 : Int) (nd2 : Int) (sy2 : Int) (na2 : Int) (vi2 : Int) (lf2 : Int) (ec2 : Int), V' = rV c0 c1 G' A' T ∧ o = .inl (some (.int (i32 r))) ∧ Wk G' A' ∧ Fr [9, 10, 11, 12, 13, 14, 15, 16, 17, 18, 19, 28, 29, 31] [6, 7, 8, 9, 10, 11, 12, 14, 15, 16, 17, 18, 19, 20, 21, 22, 23, 24, 28] G A G' A' ∧ Pf nd A A' ∧ Fx sr (sy) A A' ∧ Fx [14] (vi) A A' ∧ ((-2147483648 : Int) ≤ r ∧ r ≤ 2147483647) ∧ G' 9 = ln2 ∧ G' 10 = at2 ∧ G' 16 = fk2 ∧ G' 31 = nd2 ∧ G' 19 = sy2 ∧ G' 28 = na2 ∧ G' 29 = vi2 ∧ A' 3 (ln2).toNat = lf2 ∧ ecn A' (G' 31) = ec2 ∧ (at0 ≤ at2) ∧ (nd ≤ nd2) ∧ (sy ≤ sy2) ∧ (sy2 ≤ na2 + 2) ∧ (vi ≤ vi2) ∧ (vi2 ≤ vi + 1) ∧ (0 ≤ r) ∧ (r ≤ 6999) ∧ (ln ≤ ln2) ∧ (ln2 ≤ li) ∧ (((1 ≤ fk2) ∧ (nd2 - nd ≤ 2 * at2 - (2 * at0 - tz tk0) + 14)) ∨ ((fk2 = 0) ∧ (vi2 = vi) ∧ (ln < ln2) ∧ (nd2 - nd ≤ 2 * at2 - (2 * at0 - tz tk0)) ∧ (at2 < lf2 ∨ li ≤ ln2) ∧ (nd ≤ r) ∧ (r < nd2) ∧ (wSt A' (sy2) pb (wP A' (sy2) pb (k)) (Vs) (r) (nd) (nd2) (sy) (sy2)) ∧ (NX A' (r)) ∧ (nd2 - nd + 5 * (ec2 - ec) ≤ 2 * at2 - (2 * at0 - tz tk0))))) := by
  have hF0 : Fr [9, 10, 11, 12, 13, 14, 15, 16, 17, 18, 19, 28, 29, 31] [6, 7, 8, 9, 10, 11, 12, 14, 15, 16, 17, 18, 19, 20, 21, 22, 23, 24, 28] G A G A := Fr_rf
  have hP0 : Pf nd A A := Pf_rf
  have hS0 : Fx sr (sy) A A := Fx_rf
  have hV0 : Fx [14] (vi) A A := Fx_rf
  have b_ln : (0 : Int) ≤ ln ∧ ln ≤ 3000 := e_ln ▸ hW.1 9
  have b_li : (0 : Int) ≤ li ∧ li ≤ 3000 := e_li ▸ hW.1 3
  have b_at0 : (0 : Int) ≤ at0 ∧ at0 ≤ 3002 := e_at0 ▸ hW.1 10
  have b_fk : (0 : Int) ≤ fk ∧ fk ≤ 6 := e_fk ▸ hW.1 16
  have b_nd : (0 : Int) ≤ nd ∧ nd ≤ 6999 := e_nd ▸ hW.1 31
  have b_sy : (0 : Int) ≤ sy ∧ sy ≤ 202 := e_sy ▸ hW.1 19
  have b_na : (0 : Int) ≤ na ∧ na ≤ 200 := e_na ▸ hW.1 28
  have b_vi : (0 : Int) ≤ vi ∧ vi ≤ 202 := e_vi ▸ hW.1 29
  have b_le : (0 : Int) ≤ le ∧ le ≤ 3000 := e_le ▸ hW.2 4 _
  have b_op0 : (-2147483648 : Int) ≤ op0 ∧ op0 ≤ 2147483647 := e_op0 ▸ hW.1 15
  have z_tk0 := tz_f tk0
  have b_tk0 : (0 : Int) ≤ tk0 ∧ tk0 ≤ 5 := e_tk0 ▸ hW.1 11
  intro m
  induction m using Nat.strongRecOn with
  | ind m ih21 =>
    intro L Gx Ax n last ln1 at1 fk1 nd1 sy1 na1 vi1 lf1 ec1 hm gL_0 gL_1 gL_2 gL_3 hWx hFx hPx hSx hVx ex_ln1 ex_at1 ex_fk1 ex_nd1 ex_sy1 ex_na1 ex_vi1 ex_lf1 ex_ec1 rx_n rx_last iv_0 iv_1 iv_2 iv_3 iv_4 iv_5 iv_6 iv_7 iv_8 iv_9 iv_10 iv_11 iv_12 iv_13 iv_14 iv_15 iv_16
    have b_ln1 : (0 : Int) ≤ ln1 ∧ ln1 ≤ 3000 := ex_ln1 ▸ hWx.1 9
    have b_at1 : (0 : Int) ≤ at1 ∧ at1 ≤ 3002 := ex_at1 ▸ hWx.1 10
    have b_fk1 : (0 : Int) ≤ fk1 ∧ fk1 ≤ 6 := ex_fk1 ▸ hWx.1 16
    have b_nd1 : (0 : Int) ≤ nd1 ∧ nd1 ≤ 6999 := ex_nd1 ▸ hWx.1 31
    have b_sy1 : (0 : Int) ≤ sy1 ∧ sy1 ≤ 202 := ex_sy1 ▸ hWx.1 19
    have b_na1 : (0 : Int) ≤ na1 ∧ na1 ≤ 200 := ex_na1 ▸ hWx.1 28
    have b_vi1 : (0 : Int) ≤ vi1 ∧ vi1 ≤ 202 := ex_vi1 ▸ hWx.1 29
    refine jx_ld (pc' := 22) (l' := L) (st' := [.ref 66]) rfl (jl_aloadn gL_0) ?_
    refine jx_ld (pc' := 23) (l' := L) (st' := [.int (i32 (lv)), .ref 66]) rfl (jl_iloadn gL_1) ?_
    have b1 : (-1 : Int) ≤ A 5 (ln1).toNat ∧ A 5 (ln1).toNat ≤ 15 := hW.2 5 _
    refine jx_vr (pc' := 26) (as := [.int (i32 (lv))]) (st := []) rfl rfl rfl rfl ⟨rfl, rfl, Nat.le_of_ble_eq_true rfl⟩ rfl rfl (c_isBelow (dd := d) (hd := by omega) (hW := hWx) (lv := lv) (ln := ln1) (e_ln := show Gx 9 = ln1 from (ex_ln1)) (li := li) (e_li := show Gx 3 = li from ((hFx.1 3 rfl).trans (e_li))) (fk := fk1) (e_fk := show Gx 16 = fk1 from (ex_fk1)) (ll := A 5 (ln1).toNat) (e_ll := show Ax 5 (ln1).toNat = A 5 (ln1).toNat from (congrFun (hFx.2 5 rfl) _))  (h_lv := ⟨(Int.le_trans (by decide : (-2147483648 : Int) ≤ -2147483648) h_lv.1), (Int.le_trans h_lv.2 (by decide : (2147483647 : Int) ≤ 2147483647))⟩)  (p_0 := by omega)) (fun o V' hq => ?_)
    obtain ⟨G2, A3, r4, fk2_5, rfl, rfl, hW6, hF7, b8, e9, q10⟩ := hq
    have hF11 := Fr_tr hFx hF7 (Fr_sub (by decide)) (Fr_sub (by decide))
    have hP12 := Pf_f hPx hF7 (by decide)
    have hS13 := Fx_f hSx hF7 (by decide)
    have hV14 := Fx_f hVx hF7 (by decide)
    have sf15 : ND A3 (n) (30) (0) (0) (0) (0) (Ax 21 (n).toNat) (0) := ND_ag (by omega) (Ag_fr hF7 (by decide)) iv_14
    have sf16 : CI 1 A3 (sy1) pb (k) (Vs) (n) (last) (n + 1) (nd1) (sy) (sy1) := CI_ag (by omega) (by omega) (Sg_fr hF7 (by decide)) (Qg_fr hF7 (by decide)) (Ag_fr hF7 (by decide)) (congrFun (hF7.2 21 rfl) _) iv_15
    have ec17 : ecn A3 (G2 31) = ec1 := (ecn_f (hF7.2 15 rfl) (hF7.1 31 rfl)).trans ex_ec1
    have bfk2_5 : (0 : Int) ≤ fk2_5 ∧ fk2_5 ≤ 6 := e9 ▸ hW6.1 16
    refine .inr ⟨_, rfl, ?_⟩
    rcases q10 with ⟨rfl, a18, a19, a20, a21⟩ | ⟨rfl, a22⟩ | ⟨rfl, a23, a24, a25⟩
    · have _q : True := trivial
      have b26 : (0 : Int) ≤ A 4 (ln1).toNat ∧ A 4 (ln1).toNat ≤ 3000 := hW.2 4 _
      have lt27 : lf1 < A 4 (ln1).toNat := LT_at (LT_ext (((hF7.1 3 rfl).trans (hFx.1 3 rfl))) (((hF7.2 3 rfl).trans (hFx.2 3 rfl))) (((hF7.2 4 rfl).trans (hFx.2 4 rfl))) i_LT) (show G2 3 = li from ((hF7.1 3 rfl).trans ((hFx.1 3 rfl).trans (e_li)))) (show A3 3 (ln1).toNat = lf1 from (congrFun (hF7.2 3 rfl) _).trans (ex_lf1)) (show A3 4 (ln1).toNat = A 4 (ln1).toNat from (congrFun ((hF7.2 4 rfl).trans (hFx.2 4 rfl)) _)) (by omega) (by omega)
      refine jx_if_eq (pc' := 29) (tg := 112) rfl rfl rfl (by decide) (by decide) (fun h28 => ?_) (fun h28 => ?_)
      · have _q := h28
        exact absurd h28 (by omega)
      · have _q := h28
        refine jx_ld (pc' := 30) (l' := L) (st' := [.ref 66]) rfl (jl_aloadn gL_0) ?_
        refine jx_vr (pc' := 33) (as := []) (st := []) rfl rfl rfl rfl ⟨rfl, rfl, Nat.le_of_ble_eq_true rfl⟩ rfl rfl (c_openLine (dd := d) (hd := by omega) (hW := hW6)  (ln := ln1) (e_ln := show G2 9 = ln1 from ((hF7.1 9 rfl).trans (ex_ln1))) (le := A 4 (ln1).toNat) (e_le := show A3 4 (ln1).toNat = A 4 (ln1).toNat from (congrFun ((hF7.2 4 rfl).trans (hFx.2 4 rfl)) _)) (lf := lf1) (e_lf := show A3 3 (ln1).toNat = lf1 from (congrFun (hF7.2 3 rfl) _).trans (ex_lf1))    (p_0 := by omega)) (fun o V' hq => ?_)
        obtain ⟨G29, A30, at2_31, tk2_32, op2_33, rfl, rfl, hW34, hF35, e36, e37, e38, p39, p40, p41, p42, -⟩ := hq
        have hF44 := Fr_tr hF11 hF35 (Fr_sub (by decide)) (Fr_sub (by decide))
        have hP45 := Pf_f hP12 hF35 (by decide)
        have hS46 := Fx_f hS13 hF35 (by decide)
        have hV47 := Fx_f hV14 hF35 (by decide)
        have sf48 : ND A30 (n) (30) (0) (0) (0) (0) (Ax 21 (n).toNat) (0) := ND_ag (by omega) (Ag_fr hF35 (by decide)) sf15
        have sf49 : CI 1 A30 (sy1) pb (k) (Vs) (n) (last) (n + 1) (nd1) (sy) (sy1) := CI_ag (by omega) (by omega) (Sg_fr hF35 (by decide)) (Qg_fr hF35 (by decide)) (Ag_fr hF35 (by decide)) (congrFun (hF35.2 21 rfl) _) sf16
        have ec50 : ecn A30 (G29 31) = ec1 := (ecn_f (hF35.2 15 rfl) (hF35.1 31 rfl)).trans ec17
        have bat2_31 : (0 : Int) ≤ at2_31 ∧ at2_31 ≤ 3002 := e36 ▸ hW34.1 10
        have ztk2_32 := tz_b tk2_32
        have btk2_32 : (0 : Int) ≤ tk2_32 ∧ tk2_32 ≤ 5 := e37 ▸ hW34.1 11
        have bop2_33 : (-2147483648 : Int) ≤ op2_33 ∧ op2_33 ≤ 2147483647 := e38 ▸ hW34.1 15
        refine .inl ⟨rfl, ?_⟩
        have pz51 : lf1 + tz tk2_32 ≤ at2_31 := by omega
        refine jx_ld (pc' := 34) (l' := L) (st' := [.ref 66]) rfl (jl_aloadn gL_0) ?_
        refine jx_ar (pc' := 36) (st' := [.int (i32 (34)), .ref 66]) rfl rfl rfl rfl ?_
        refine jx_ar (pc' := 37) (st' := [.int (i32 (0)), .int (i32 (34)), .ref 66]) rfl rfl rfl rfl ?_
        refine jx_ar (pc' := 38) (st' := [.int (i32 (0)), .int (i32 (0)), .int (i32 (34)), .ref 66]) rfl rfl rfl rfl ?_
        refine jx_ar (pc' := 39) (st' := [.int (i32 (0)), .int (i32 (0)), .int (i32 (0)), .int (i32 (34)), .ref 66]) rfl rfl rfl rfl ?_
        refine jx_ar (pc' := 40) (st' := [.int (i32 (0)), .int (i32 (0)), .int (i32 (0)), .int (i32 (0)), .int (i32 (34)), .ref 66]) rfl rfl rfl rfl ?_
        refine jx_vr (pc' := 43) (as := [.int (i32 (34)), .int (i32 (0)), .int (i32 (0)), .int (i32 (0)), .int (i32 (0))]) (st := []) rfl rfl rfl rfl ⟨rfl, rfl, Nat.le_of_ble_eq_true rfl⟩ rfl rfl (c_node_o (dd := d) (hd := by omega) (hW := hW34) (kind := 34) (a := 0) (b := 0) (c := 0) (e := 0) (nd := nd1) (e_nd := show G29 31 = nd1 from ((hF35.1 31 rfl).trans ((hF7.1 31 rfl).trans (ex_nd1)))) (ec := ec1) (e_ec := show ecn A30 (G29 31) = ec1 from ec50)  (h_kind := ⟨(by decide), (by decide)⟩) (h_a := ⟨(by decide), (by decide)⟩) (h_b := ⟨(by decide), (by decide)⟩) (h_c := ⟨(by decide), (by decide)⟩) (h_e := ⟨(by decide), (by decide)⟩)  (p_0 := by omega) (p_1 := by omega) (p_2 := by omega)) (fun o V' hq => ?_)
        obtain ⟨G52, A53, nd2_54, ec2_55, rfl, rfl, hW56, hF57, hQ58, e59, e60, p61, p62, p63, -⟩ := hq
        have hF65 := Fr_tr hF44 hF57 (Fr_sub (by decide)) (Fr_sub (by decide))
        have hP66 := Pf_tr hP45 hQ58 (by omega)
        have hS67 := Fx_f hS46 hF57 (by decide)
        have hV68 := Fx_f hV47 hF57 (by decide)
        have sf69 : ND A53 (n) (30) (0) (0) (0) (0) (Ax 21 (n).toNat) (0) := ND_ag (by omega) (Ag_pf hQ58 (by omega)) sf48
        have sf70 : CI 1 A53 (sy1) pb (k) (Vs) (n) (last) (n + 1) (nd1) (sy) (sy1) := CI_ag (by omega) (by omega) (Sg_fr hF57 (by decide)) (Qg_fr hF57 (by decide)) (Ag_pf hQ58 (by omega)) (hQ58 21 _ rfl (by omega)) sf49
        have bnd2_54 : (0 : Int) ≤ nd2_54 ∧ nd2_54 ≤ 6999 := e59 ▸ hW56.1 31
        refine .inr ⟨_, rfl, ?_⟩
        refine jx_ld (pc' := 45) (l' := jSto1 L 4 (.int (i32 (nd1)))) (st' := []) rfl rfl ?_
        obtain ⟨L71, eL71⟩ : ∃ q, q = jSto1 L 4 (.int (i32 (nd1))) := ⟨_, rfl⟩
        rw [← eL71]
        have gL71_0 : jGet L71 0 = some (.ref 66) := eL71 ▸ jg_ne (by decide) gL_0 rfl
        have gL71_1 : jGet L71 1 = some (.int (i32 (lv))) := eL71 ▸ jg_ne (by decide) gL_1 rfl
        have gL71_2 : jGet L71 2 = some (.int (i32 (n))) := eL71 ▸ jg_ne (by decide) gL_2 rfl
        have gL71_3 : jGet L71 3 = some (.int (i32 (last))) := eL71 ▸ jg_ne (by decide) gL_3 rfl
        have gL71_4 : jGet L71 4 = some (.int (i32 (nd1))) := eL71 ▸ jg_eq
        refine jx_ld (pc' := 46) (l' := L71) (st' := [.ref 66]) rfl (jl_aloadn gL71_0) ?_
        refine jr_get (pc' := 49) (i := 34) (v := .ref 84) rfl rfl (by decide) rfl rfl ?_
        refine jx_ld (pc' := 51) (l' := L71) (st' := [.int (i32 (nd1)), .ref 84]) rfl (jl_iload gL71_4) ?_
        refine jx_ld (pc' := 52) (l' := L71) (st' := [.ref 66, .int (i32 (nd1)), .ref 84]) rfl (jl_aloadn gL71_0) ?_
        refine jx_vr (pc' := 55) (as := []) (st := [.int (i32 (nd1)), .ref 84]) rfl rfl rfl rfl ⟨rfl, rfl, Nat.le_of_ble_eq_true rfl⟩ rfl rfl (REw_all X 9 (dd := d) (hd := by omega) (hW := hW56)  (ln := ln1) (e_ln := show G52 9 = ln1 from ((hF57.1 9 rfl).trans ((hF35.1 9 rfl).trans ((hF7.1 9 rfl).trans (ex_ln1))))) (le := A 4 (ln1).toNat) (e_le := show A53 4 (ln1).toNat = A 4 (ln1).toNat from (congrFun ((hF57.2 4 rfl).trans ((hF35.2 4 rfl).trans ((hF7.2 4 rfl).trans (hFx.2 4 rfl)))) _)) (at0 := at2_31) (e_at0 := show G52 10 = at2_31 from ((hF57.1 10 rfl).trans (e36))) (fk := fk2_5) (e_fk := show G52 16 = fk2_5 from ((hF57.1 16 rfl).trans ((hF35.1 16 rfl).trans (e9)))) (op0 := op2_33) (e_op0 := show G52 15 = op2_33 from ((hF57.1 15 rfl).trans (e38))) (nd := nd2_54) (e_nd := show G52 31 = nd2_54 from (e59)) (tk0 := tk2_32) (e_tk0 := show G52 11 = tk2_32 from ((hF57.1 11 rfl).trans (e37))) (ec := ec2_55) (e_ec := show ecn A53 (G52 31) = ec2_55 from e60) (i_SV := (SV_fx i_SV e_vi (show G52 29 = vi1 from ((hF57.1 29 rfl).trans ((hF35.1 29 rfl).trans ((hF7.1 29 rfl).trans (ex_vi1))))) (by omega) hV68))   (p_0 := by omega) (p_1 := by omega) (p_2 := by omega) (p_3 := by omega) (p_4 := by omega) (p_5 := by omega)) (fun o V' hq => ?_)
        obtain ⟨G72, A73, r74, at2_75, fk2_76, op2_77, nd2_78, tk2_79, ec2_80, rfl, rfl, hW81, hF82, hQ83, b84, e85, e86, e87, e88, e89, e90, p91, p92, p93, p94, p95, p96, q97⟩ := hq
        have hF98 := Fr_tr hF65 hF82 (Fr_sub (by decide)) (Fr_sub (by decide))
        have hP99 := Pf_tr hP66 hQ83 (by omega)
        have hS100 := Fx_f hS67 hF82 (by decide)
        have hV101 := Fx_f hV68 hF82 (by decide)
        have sf102 : ND A73 (n) (30) (0) (0) (0) (0) (Ax 21 (n).toNat) (0) := ND_ag (by omega) (Ag_pf hQ83 (by omega)) sf69
        have sf103 : CI 1 A73 (sy1) pb (k) (Vs) (n) (last) (n + 1) (nd1) (sy) (sy1) := CI_ag (by omega) (by omega) (Sg_fr hF82 (by decide)) (Qg_fr hF82 (by decide)) (Ag_pf hQ83 (by omega)) (hQ83 21 _ rfl (by omega)) sf70
        have sf104 : ND A73 (nd1) (34) (0) (0) (0) (0) (0) (0) := ND_ag (by omega) (Ag_pf hQ83 (by omega)) p63
        have bat2_75 : (0 : Int) ≤ at2_75 ∧ at2_75 ≤ 3002 := e85 ▸ hW81.1 10
        have bfk2_76 : (0 : Int) ≤ fk2_76 ∧ fk2_76 ≤ 6 := e86 ▸ hW81.1 16
        have bop2_77 : (-2147483648 : Int) ≤ op2_77 ∧ op2_77 ≤ 2147483647 := e87 ▸ hW81.1 15
        have bnd2_78 : (0 : Int) ≤ nd2_78 ∧ nd2_78 ≤ 6999 := e88 ▸ hW81.1 31
        have ztk2_79 := tz_b tk2_79
        have btk2_79 : (0 : Int) ≤ tk2_79 ∧ tk2_79 ≤ 5 := e89 ▸ hW81.1 11
        refine .inr ⟨_, rfl, ?_⟩
        rcases q97 with ⟨a105, a106, a107, a108, a109, a110⟩ | ⟨a111, a112, a113⟩ | ⟨a114, a115, a116, a117, a118, a119⟩
        · have _q : True := trivial
          exfalso
          omega
        · have _q : True := trivial
          refine jr_st (pc' := 56) (i := 17) (m := 7000) (z := nd1) (y := r74) rfl (by decide) rfl (by decide) (by omega) (by omega) rfl ?_
          have hW121 : Wk G72 (uA A73 17 (nd1).toNat (r74)) := Wk_a hW81 (show (-2147483648 : Int) ≤ r74 by omega) (show r74 ≤ (2147483647 : Int) by omega)
          have hF122 := Fr_a (z := r74) (k := 17) (n := (nd1).toNat) hF98 (by decide)
          obtain ⟨A120, eA120⟩ : ∃ q, q = uA A73 17 (nd1).toNat (r74) := ⟨_, rfl⟩
          rw [← eA120]
          rw [← eA120] at hW121 hF122
          have q123 : A120 17 (nd1).toNat = r74 := by rw [eA120]; exact uA_eq
          have hP124 : Pf nd A A120 := eA120 ▸ Pf_a hP99 (z := nd1) (by omega) (by omega)
          have hS125 : Fx sr (sy) A A120 := eA120 ▸ Fx_n hS100 rfl
          have hV126 : Fx [14] (vi) A A120 := eA120 ▸ Fx_n hV101 rfl
          have sf127 : ND A120 (n) (30) (0) (0) (0) (0) (Ax 21 (n).toNat) (0) := ND_ag (by omega) (Ag_st eA120 (by omega) (by omega)) sf102
          have sf128 : CI 1 A120 (sy1) pb (k) (Vs) (n) (last) (n + 1) (nd1) (sy) (sy1) := CI_ag (by omega) (by omega) (Sg_ne eA120 rfl) (Qg_ne eA120 rfl) (Ag_st eA120 (by omega) (by omega)) ((congrFun ((congrFun eA120 21).trans (uA_ne (by decide))) _)) sf103
          have sf129 : ND A120 (nd1) (34) (r74) (0) (0) (0) (0) (0) := ND_a eA120 sf104
          have ec130 : ecn A120 (G72 31) = ec2_80 := (ecn_e ((congrFun eA120 15).trans (uA_ne (by decide)))).trans e90
          refine jx_ld (pc' := 57) (l' := L71) (st' := [.ref 66]) rfl (jl_aloadn gL71_0) ?_
          refine jx_vr (pc' := 60) (as := []) (st := []) rfl rfl rfl rfl ⟨rfl, rfl, Nat.le_of_ble_eq_true rfl⟩ rfl rfl (c_endLine (dd := d) (hd := by omega) (hW := hW121)  (ln := ln1) (e_ln := show G72 9 = ln1 from ((hF82.1 9 rfl).trans ((hF57.1 9 rfl).trans ((hF35.1 9 rfl).trans ((hF7.1 9 rfl).trans (ex_ln1)))))) (li := li) (e_li := show G72 3 = li from ((hF82.1 3 rfl).trans ((hF57.1 3 rfl).trans ((hF35.1 3 rfl).trans ((hF7.1 3 rfl).trans ((hFx.1 3 rfl).trans (e_li))))))) (fk := fk2_76) (e_fk := show G72 16 = fk2_76 from (e86)) (tk0 := tk2_79) (e_tk0 := show G72 11 = tk2_79 from (e89))    (p_0 := by omega)) (fun o V' hq => ?_)
          obtain ⟨G131, A132, ln2_133, fk2_134, rfl, rfl, hW135, hF136, e137, e138, q139⟩ := hq
          have hF140 := Fr_tr hF122 hF136 (Fr_sub (by decide)) (Fr_sub (by decide))
          have hP141 := Pf_f hP124 hF136 (by decide)
          have hS142 := Fx_f hS125 hF136 (by decide)
          have hV143 := Fx_f hV126 hF136 (by decide)
          have sf144 : ND A132 (n) (30) (0) (0) (0) (0) (Ax 21 (n).toNat) (0) := ND_ag (by omega) (Ag_fr hF136 (by decide)) sf127
          have sf145 : CI 1 A132 (sy1) pb (k) (Vs) (n) (last) (n + 1) (nd1) (sy) (sy1) := CI_ag (by omega) (by omega) (Sg_fr hF136 (by decide)) (Qg_fr hF136 (by decide)) (Ag_fr hF136 (by decide)) (congrFun (hF136.2 21 rfl) _) sf128
          have sf146 : ND A132 (nd1) (34) (r74) (0) (0) (0) (0) (0) := ND_ag (by omega) (Ag_fr hF136 (by decide)) sf129
          have ec147 : ecn A132 (G131 31) = ec2_80 := (ecn_f (hF136.2 15 rfl) (hF136.1 31 rfl)).trans ec130
          have bln2_133 : (0 : Int) ≤ ln2_133 ∧ ln2_133 ≤ 3000 := e137 ▸ hW135.1 9
          have bfk2_134 : (0 : Int) ≤ fk2_134 ∧ fk2_134 ≤ 6 := e138 ▸ hW135.1 16
          refine .inl ⟨rfl, ?_⟩
          rcases q139 with ⟨a148, a149, a150, a151, a152⟩ | ⟨a153, a154⟩
          · have _q : True := trivial
            exfalso
            omega
          · have _q : True := trivial
            refine jx_ld (pc' := 61) (l' := L71) (st' := [.ref 66]) rfl (jl_aloadn gL71_0) ?_
            refine jx_vr (pc' := 64) (as := []) (st := []) rfl rfl rfl rfl ⟨rfl, rfl, Nat.le_of_ble_eq_true rfl⟩ rfl rfl (c_bad (dd := d) (hd := by omega) (hW := hW135)  (fk := fk2_134) (e_fk := show G131 16 = fk2_134 from (e138))    ) (fun o V' hq => ?_)
            obtain ⟨r155, rfl, rfl, b156, q157⟩ := hq
            refine .inr ⟨_, rfl, ?_⟩
            rcases q157 with ⟨rfl, a158⟩ | ⟨rfl, a159⟩
            · have _q : True := trivial
              refine jx_if_eq (pc' := 67) (tg := 71) rfl rfl rfl (by decide) (by decide) (fun h160 => ?_) (fun h160 => ?_)
              · have _q := h160
                exact absurd h160 (by omega)
              · have _q := h160
                refine jx_ar (pc' := 68) (st' := [.int (i32 (0))]) rfl rfl rfl rfl ?_
                refine jx_go (tg := 78) rfl rfl ?_
                refine jx_ld (pc' := 80) (l' := jSto1 L71 5 (.int (i32 (0)))) (st' := []) rfl rfl ?_
                obtain ⟨L161, eL161⟩ : ∃ q, q = jSto1 L71 5 (.int (i32 (0))) := ⟨_, rfl⟩
                rw [← eL161]
                have gL161_0 : jGet L161 0 = some (.ref 66) := eL161 ▸ jg_ne (by decide) gL71_0 rfl
                have gL161_1 : jGet L161 1 = some (.int (i32 (lv))) := eL161 ▸ jg_ne (by decide) gL71_1 rfl
                have gL161_2 : jGet L161 2 = some (.int (i32 (n))) := eL161 ▸ jg_ne (by decide) gL71_2 rfl
                have gL161_3 : jGet L161 3 = some (.int (i32 (last))) := eL161 ▸ jg_ne (by decide) gL71_3 rfl
                have gL161_4 : jGet L161 4 = some (.int (i32 (nd1))) := eL161 ▸ jg_ne (by decide) gL71_4 rfl
                have gL161_5 : jGet L161 5 = some (.int (i32 (0))) := eL161 ▸ jg_eq
                refine jx_ld (pc' := 81) (l' := L161) (st' := [.ref 66]) rfl (jl_aloadn gL161_0) ?_
                refine jx_vr (pc' := 84) (as := []) (st := []) rfl rfl rfl rfl ⟨rfl, rfl, Nat.le_of_ble_eq_true rfl⟩ rfl rfl (c_bad (dd := d) (hd := by omega) (hW := hW135)  (fk := fk2_134) (e_fk := show G131 16 = fk2_134 from (e138))    ) (fun o V' hq => ?_)
                obtain ⟨r162, rfl, rfl, b163, q164⟩ := hq
                refine .inr ⟨_, rfl, ?_⟩
                rcases q164 with ⟨rfl, a165⟩ | ⟨rfl, a166⟩
                · have _q : True := trivial
                  refine jx_if_eq (pc' := 87) (tg := 89) rfl rfl rfl (by decide) (by decide) (fun h167 => ?_) (fun h167 => ?_)
                  · have _q := h167
                    exact absurd h167 (by omega)
                  · have _q := h167
                    refine jx_ar (pc' := 88) (st' := [.int (i32 (0))]) rfl rfl rfl rfl ?_
                    refine jx_rt (v := some (.int (i32 (0)))) rfl rfl rfl rfl rfl rfl ?_
                    exact ⟨_, _, _, ln2_133, at2_75, fk2_134, nd2_78, sy1, na1, vi1, A 3 (ln2_133).toNat, ec2_80, rfl, rfl, hW135, hF140, hP141, hS142, hV143, by omega, (e137), ((hF136.1 10 rfl).trans (e85)), (e138), ((hF136.1 31 rfl).trans (e88)), ((hF136.1 19 rfl).trans ((hF82.1 19 rfl).trans ((hF57.1 19 rfl).trans ((hF35.1 19 rfl).trans ((hF7.1 19 rfl).trans (ex_sy1)))))), ((hF136.1 28 rfl).trans ((hF82.1 28 rfl).trans ((hF57.1 28 rfl).trans ((hF35.1 28 rfl).trans ((hF7.1 28 rfl).trans (ex_na1)))))), ((hF136.1 29 rfl).trans ((hF82.1 29 rfl).trans ((hF57.1 29 rfl).trans ((hF35.1 29 rfl).trans ((hF7.1 29 rfl).trans (ex_vi1)))))), (congrFun ((hF136.2 3 rfl).trans (((congrFun eA120 3).trans (uA_ne (by decide))).trans ((hF82.2 3 rfl).trans ((hF57.2 3 rfl).trans ((hF35.2 3 rfl).trans ((hF7.2 3 rfl).trans (hFx.2 3 rfl))))))) _), ec147, by omega, by omega, by omega, by omega, by omega, by omega, by omega, by omega, by omega, by omega, by first | exact Or.inl (⟨by omega, by omega⟩)⟩
                · have _q : True := trivial
                  exfalso
                  omega
            · have _q : True := trivial
              exfalso
              omega
        · have _q : True := trivial
          refine jr_st (pc' := 56) (i := 17) (m := 7000) (z := nd1) (y := r74) rfl (by decide) rfl (by decide) (by omega) (by omega) rfl ?_
          have hW169 : Wk G72 (uA A73 17 (nd1).toNat (r74)) := Wk_a hW81 (show (-2147483648 : Int) ≤ r74 by omega) (show r74 ≤ (2147483647 : Int) by omega)
          have hF170 := Fr_a (z := r74) (k := 17) (n := (nd1).toNat) hF98 (by decide)
          obtain ⟨A168, eA168⟩ : ∃ q, q = uA A73 17 (nd1).toNat (r74) := ⟨_, rfl⟩
          rw [← eA168]
          rw [← eA168] at hW169 hF170
          have q171 : A168 17 (nd1).toNat = r74 := by rw [eA168]; exact uA_eq
          have hP172 : Pf nd A A168 := eA168 ▸ Pf_a hP99 (z := nd1) (by omega) (by omega)
          have hS173 : Fx sr (sy) A A168 := eA168 ▸ Fx_n hS100 rfl
          have hV174 : Fx [14] (vi) A A168 := eA168 ▸ Fx_n hV101 rfl
          have sf175 : ND A168 (n) (30) (0) (0) (0) (0) (Ax 21 (n).toNat) (0) := ND_ag (by omega) (Ag_st eA168 (by omega) (by omega)) sf102
          have sf176 : CI 1 A168 (sy1) pb (k) (Vs) (n) (last) (n + 1) (nd1) (sy) (sy1) := CI_ag (by omega) (by omega) (Sg_ne eA168 rfl) (Qg_ne eA168 rfl) (Ag_st eA168 (by omega) (by omega)) ((congrFun ((congrFun eA168 21).trans (uA_ne (by decide))) _)) sf103
          have sf177 : ND A168 (nd1) (34) (r74) (0) (0) (0) (0) (0) := ND_a eA168 sf104
          have sf178 : wE A168 Vs sb (2 * 9 + 2) (r74) (nd2_54) (nd2_78) := wE_ag (by omega) (Sg_ne eA168 rfl) (Ag_st eA168 (by omega) (by omega)) a117
          have ec179 : ecn A168 (G72 31) = ec2_80 := (ecn_e ((congrFun eA168 15).trans (uA_ne (by decide)))).trans e90
          refine jx_ld (pc' := 57) (l' := L71) (st' := [.ref 66]) rfl (jl_aloadn gL71_0) ?_
          refine jx_vr (pc' := 60) (as := []) (st := []) rfl rfl rfl rfl ⟨rfl, rfl, Nat.le_of_ble_eq_true rfl⟩ rfl rfl (c_endLine (dd := d) (hd := by omega) (hW := hW169)  (ln := ln1) (e_ln := show G72 9 = ln1 from ((hF82.1 9 rfl).trans ((hF57.1 9 rfl).trans ((hF35.1 9 rfl).trans ((hF7.1 9 rfl).trans (ex_ln1)))))) (li := li) (e_li := show G72 3 = li from ((hF82.1 3 rfl).trans ((hF57.1 3 rfl).trans ((hF35.1 3 rfl).trans ((hF7.1 3 rfl).trans ((hFx.1 3 rfl).trans (e_li))))))) (fk := fk2_76) (e_fk := show G72 16 = fk2_76 from (e86)) (tk0 := tk2_79) (e_tk0 := show G72 11 = tk2_79 from (e89))    (p_0 := by omega)) (fun o V' hq => ?_)
          obtain ⟨G180, A181, ln2_182, fk2_183, rfl, rfl, hW184, hF185, e186, e187, q188⟩ := hq
          have hF189 := Fr_tr hF170 hF185 (Fr_sub (by decide)) (Fr_sub (by decide))
          have hP190 := Pf_f hP172 hF185 (by decide)
          have hS191 := Fx_f hS173 hF185 (by decide)
          have hV192 := Fx_f hV174 hF185 (by decide)
          have sf193 : ND A181 (n) (30) (0) (0) (0) (0) (Ax 21 (n).toNat) (0) := ND_ag (by omega) (Ag_fr hF185 (by decide)) sf175
          have sf194 : CI 1 A181 (sy1) pb (k) (Vs) (n) (last) (n + 1) (nd1) (sy) (sy1) := CI_ag (by omega) (by omega) (Sg_fr hF185 (by decide)) (Qg_fr hF185 (by decide)) (Ag_fr hF185 (by decide)) (congrFun (hF185.2 21 rfl) _) sf176
          have sf195 : ND A181 (nd1) (34) (r74) (0) (0) (0) (0) (0) := ND_ag (by omega) (Ag_fr hF185 (by decide)) sf177
          have sf196 : wE A181 Vs sb (2 * 9 + 2) (r74) (nd2_54) (nd2_78) := wE_ag (by omega) (Sg_fr hF185 (by decide)) (Ag_fr hF185 (by decide)) sf178
          have ec197 : ecn A181 (G180 31) = ec2_80 := (ecn_f (hF185.2 15 rfl) (hF185.1 31 rfl)).trans ec179
          have bln2_182 : (0 : Int) ≤ ln2_182 ∧ ln2_182 ≤ 3000 := e186 ▸ hW184.1 9
          have bfk2_183 : (0 : Int) ≤ fk2_183 ∧ fk2_183 ≤ 6 := e187 ▸ hW184.1 16
          refine .inl ⟨rfl, ?_⟩
          rcases q188 with ⟨a198, a199, a200, a201, a202⟩ | ⟨a203, a204⟩
          · have _q : True := trivial
            have b205 : (0 : Int) ≤ A 3 (ln2_182).toNat ∧ A 3 (ln2_182).toNat ≤ 3000 := hW.2 3 _
            have lt206 : ln2_182 < li → A 4 (ln1).toNat < A 3 (ln2_182).toNat := fun hh => LT_nx (LT_ext (((hF185.1 3 rfl).trans ((hF82.1 3 rfl).trans ((hF57.1 3 rfl).trans ((hF35.1 3 rfl).trans ((hF7.1 3 rfl).trans (hFx.1 3 rfl))))))) (((hF185.2 3 rfl).trans (((congrFun eA168 3).trans (uA_ne (by decide))).trans ((hF82.2 3 rfl).trans ((hF57.2 3 rfl).trans ((hF35.2 3 rfl).trans ((hF7.2 3 rfl).trans (hFx.2 3 rfl)))))))) (((hF185.2 4 rfl).trans (((congrFun eA168 4).trans (uA_ne (by decide))).trans ((hF82.2 4 rfl).trans ((hF57.2 4 rfl).trans ((hF35.2 4 rfl).trans ((hF7.2 4 rfl).trans (hFx.2 4 rfl)))))))) i_LT) (show G180 3 = li from ((hF185.1 3 rfl).trans ((hF82.1 3 rfl).trans ((hF57.1 3 rfl).trans ((hF35.1 3 rfl).trans ((hF7.1 3 rfl).trans ((hFx.1 3 rfl).trans (e_li)))))))) (show A181 4 (ln1).toNat = A 4 (ln1).toNat from (congrFun ((hF185.2 4 rfl).trans (((congrFun eA168 4).trans (uA_ne (by decide))).trans ((hF82.2 4 rfl).trans ((hF57.2 4 rfl).trans ((hF35.2 4 rfl).trans ((hF7.2 4 rfl).trans (hFx.2 4 rfl))))))) _)) (show A181 3 (ln2_182).toNat = A 3 (ln2_182).toNat from (congrFun ((hF185.2 3 rfl).trans (((congrFun eA168 3).trans (uA_ne (by decide))).trans ((hF82.2 3 rfl).trans ((hF57.2 3 rfl).trans ((hF35.2 3 rfl).trans ((hF7.2 3 rfl).trans (hFx.2 3 rfl))))))) _)) (show ln2_182 = ln1 + 1 by omega) (by omega) hh
            refine jx_ld (pc' := 61) (l' := L71) (st' := [.ref 66]) rfl (jl_aloadn gL71_0) ?_
            refine jx_vr (pc' := 64) (as := []) (st := []) rfl rfl rfl rfl ⟨rfl, rfl, Nat.le_of_ble_eq_true rfl⟩ rfl rfl (c_bad (dd := d) (hd := by omega) (hW := hW184)  (fk := fk2_183) (e_fk := show G180 16 = fk2_183 from (e187))    ) (fun o V' hq => ?_)
            obtain ⟨r207, rfl, rfl, b208, q209⟩ := hq
            refine .inr ⟨_, rfl, ?_⟩
            rcases q209 with ⟨rfl, a210⟩ | ⟨rfl, a211⟩
            · have _q : True := trivial
              exfalso
              omega
            · have _q : True := trivial
              refine jx_if_eq (pc' := 67) (tg := 71) rfl rfl rfl (by decide) (by decide) (fun h212 => ?_) (fun h212 => ?_)
              · have _q := h212
                refine jx_ld (pc' := 72) (l' := L71) (st' := [.ref 66]) rfl (jl_aloadn gL71_0) ?_
                refine jx_ld (pc' := 73) (l' := L71) (st' := [.int (i32 (lv)), .ref 66]) rfl (jl_iloadn gL71_1) ?_
                refine jx_ar (pc' := 74) (st' := [.int (i32 (2)), .int (i32 (lv)), .ref 66]) rfl rfl rfl rfl ?_
                refine jx_add (pc' := 75) rfl rfl ?_
                refine jx_vr (pc' := 78) (as := [.int (i32 ((lv + 2)))]) (st := []) rfl rfl rfl rfl ⟨rfl, rfl, Nat.le_of_ble_eq_true rfl⟩ rfl rfl (hP (dd := d) (hd := by omega) (hW := hW184) (lv := (lv + 2)) (at0 := at2_75) (ln := ln2_182) (e_ln := show G180 9 = ln2_182 from (e186)) (li := li) (e_li := show G180 3 = li from ((hF185.1 3 rfl).trans ((hF82.1 3 rfl).trans ((hF57.1 3 rfl).trans ((hF35.1 3 rfl).trans ((hF7.1 3 rfl).trans ((hFx.1 3 rfl).trans (e_li)))))))) (fk := fk2_183) (e_fk := show G180 16 = fk2_183 from (e187)) (nd := nd2_78) (e_nd := show G180 31 = nd2_78 from ((hF185.1 31 rfl).trans (e88))) (sy := sy1) (e_sy := show G180 19 = sy1 from ((hF185.1 19 rfl).trans ((hF82.1 19 rfl).trans ((hF57.1 19 rfl).trans ((hF35.1 19 rfl).trans ((hF7.1 19 rfl).trans (ex_sy1))))))) (na := na1) (e_na := show G180 28 = na1 from ((hF185.1 28 rfl).trans ((hF82.1 28 rfl).trans ((hF57.1 28 rfl).trans ((hF35.1 28 rfl).trans ((hF7.1 28 rfl).trans (ex_na1))))))) (vi := vi1) (e_vi := show G180 29 = vi1 from ((hF185.1 29 rfl).trans ((hF82.1 29 rfl).trans ((hF57.1 29 rfl).trans ((hF35.1 29 rfl).trans ((hF7.1 29 rfl).trans (ex_vi1))))))) (lf := A 3 (ln2_182).toNat) (e_lf := show A181 3 (ln2_182).toNat = A 3 (ln2_182).toNat from (congrFun ((hF185.2 3 rfl).trans (((congrFun eA168 3).trans (uA_ne (by decide))).trans ((hF82.2 3 rfl).trans ((hF57.2 3 rfl).trans ((hF35.2 3 rfl).trans ((hF7.2 3 rfl).trans (hFx.2 3 rfl))))))) _)) (ac := at2_75) (e_ac := show G180 10 = at2_75 from ((hF185.1 10 rfl).trans (e85))) (ec := ec2_80) (e_ec := show ecn A181 (G180 31) = ec2_80 from ec197) (i_LT := (LT_ext (((hF185.1 3 rfl).trans ((hF82.1 3 rfl).trans ((hF57.1 3 rfl).trans ((hF35.1 3 rfl).trans ((hF7.1 3 rfl).trans (hFx.1 3 rfl))))))) (((hF185.2 3 rfl).trans (((congrFun eA168 3).trans (uA_ne (by decide))).trans ((hF82.2 3 rfl).trans ((hF57.2 3 rfl).trans ((hF35.2 3 rfl).trans ((hF7.2 3 rfl).trans (hFx.2 3 rfl)))))))) (((hF185.2 4 rfl).trans (((congrFun eA168 4).trans (uA_ne (by decide))).trans ((hF82.2 4 rfl).trans ((hF57.2 4 rfl).trans ((hF35.2 4 rfl).trans ((hF7.2 4 rfl).trans (hFx.2 4 rfl)))))))) i_LT)) (i_SV := (SV_fx i_SV e_vi (show G180 29 = vi1 from ((hF185.1 29 rfl).trans ((hF82.1 29 rfl).trans ((hF57.1 29 rfl).trans ((hF35.1 29 rfl).trans ((hF7.1 29 rfl).trans (ex_vi1))))))) (by omega) hV192)) (i_PQ := (PQ_fx i_PQ hS191 (by omega) (hF189.2 29 rfl) (hF189.2 30 rfl))) (hvb := hvb) (h_lv := ⟨(by omega), (by omega)⟩)  (p_0 := by omega) (p_1 := by omega) (p_2 := by omega) (p_3 := by omega) (p_4 := by omega) (p_5 := by omega) (p_6 := by omega) (p_7 := by omega) (p_8 := by omega) (p_9 := by omega) (p_10 := by omega)) (fun o V' hq => ?_)
                obtain ⟨G213, A214, r215, ln2_216, at2_217, fk2_218, nd2_219, sy2_220, na2_221, vi2_222, lf2_223, ec2_224, rfl, rfl, hW225, hF226, hQ227, hQ228, hQ229, b230, e231, e232, e233, e234, e235, e236, e237, e238, e239, p240, p241, p242, p243, p244, p245, p246, p247, p248, q249⟩ := hq
                have hF250 := Fr_tr hF189 hF226 (Fr_sub (by decide)) (Fr_sub (by decide))
                have k251 : A214 17 (nd1).toNat = r74 := (hQ227 17 _ rfl (by omega)).trans (show A181 17 (nd1).toNat = r74 from (congrFun (hF185.2 17 rfl) _).trans (q171))
                have hP252 := Pf_tr hP190 hQ227 (by omega)
                have hS253 := Fx_tr hS191 hQ228 (by omega)
                have hV254 := Fx_tr hV192 hQ229 (by omega)
                have sf255 : ND A214 (n) (30) (0) (0) (0) (0) (Ax 21 (n).toNat) (0) := ND_ag (by omega) (Ag_pf hQ227 (by omega)) sf193
                have sf256 : CI 1 A214 (sy1) pb (k) (Vs) (n) (last) (n + 1) (nd1) (sy) (sy1) := CI_ag (by omega) (by omega) (Fx_su hQ228 (by omega)) (Qg_fr hF226 (by decide)) (Ag_pf hQ227 (by omega)) (hQ227 21 _ rfl (by omega)) sf194
                have sf257 : ND A214 (nd1) (34) (r74) (0) (0) (0) (0) (0) := ND_ag (by omega) (Ag_pf hQ227 (by omega)) sf195
                have sf258 : wE A214 Vs sb (2 * 9 + 2) (r74) (nd2_54) (nd2_78) := wE_ag (by omega) (Fx_su hQ228 (by omega)) (Ag_pf hQ227 (by omega)) sf196
                have bln2_216 : (0 : Int) ≤ ln2_216 ∧ ln2_216 ≤ 3000 := e231 ▸ hW225.1 9
                have bat2_217 : (0 : Int) ≤ at2_217 ∧ at2_217 ≤ 3002 := e232 ▸ hW225.1 10
                have bfk2_218 : (0 : Int) ≤ fk2_218 ∧ fk2_218 ≤ 6 := e233 ▸ hW225.1 16
                have bnd2_219 : (0 : Int) ≤ nd2_219 ∧ nd2_219 ≤ 6999 := e234 ▸ hW225.1 31
                have bsy2_220 : (0 : Int) ≤ sy2_220 ∧ sy2_220 ≤ 202 := e235 ▸ hW225.1 19
                have bna2_221 : (0 : Int) ≤ na2_221 ∧ na2_221 ≤ 200 := e236 ▸ hW225.1 28
                have bvi2_222 : (0 : Int) ≤ vi2_222 ∧ vi2_222 ≤ 202 := e237 ▸ hW225.1 29
                have blf2_223 : (0 : Int) ≤ lf2_223 ∧ lf2_223 ≤ 3000 := e238 ▸ hW225.2 3 _
                refine .inr ⟨_, rfl, ?_⟩
                rcases q249 with ⟨a259, a260⟩ | ⟨a261, a262, a263, a264, a265, a266, a267, a268, a269⟩
                · have _q : True := trivial
                  refine jx_ld (pc' := 80) (l' := jSto1 L71 5 (.int (i32 (r215)))) (st' := []) rfl rfl ?_
                  obtain ⟨L270, eL270⟩ : ∃ q, q = jSto1 L71 5 (.int (i32 (r215))) := ⟨_, rfl⟩
                  rw [← eL270]
                  have gL270_0 : jGet L270 0 = some (.ref 66) := eL270 ▸ jg_ne (by decide) gL71_0 rfl
                  have gL270_1 : jGet L270 1 = some (.int (i32 (lv))) := eL270 ▸ jg_ne (by decide) gL71_1 rfl
                  have gL270_2 : jGet L270 2 = some (.int (i32 (n))) := eL270 ▸ jg_ne (by decide) gL71_2 rfl
                  have gL270_3 : jGet L270 3 = some (.int (i32 (last))) := eL270 ▸ jg_ne (by decide) gL71_3 rfl
                  have gL270_4 : jGet L270 4 = some (.int (i32 (nd1))) := eL270 ▸ jg_ne (by decide) gL71_4 rfl
                  have gL270_5 : jGet L270 5 = some (.int (i32 (r215))) := eL270 ▸ jg_eq
                  refine jx_ld (pc' := 81) (l' := L270) (st' := [.ref 66]) rfl (jl_aloadn gL270_0) ?_
                  refine jx_vr (pc' := 84) (as := []) (st := []) rfl rfl rfl rfl ⟨rfl, rfl, Nat.le_of_ble_eq_true rfl⟩ rfl rfl (c_bad (dd := d) (hd := by omega) (hW := hW225)  (fk := fk2_218) (e_fk := show G213 16 = fk2_218 from (e233))    ) (fun o V' hq => ?_)
                  obtain ⟨r271, rfl, rfl, b272, q273⟩ := hq
                  refine .inr ⟨_, rfl, ?_⟩
                  rcases q273 with ⟨rfl, a274⟩ | ⟨rfl, a275⟩
                  · have _q : True := trivial
                    refine jx_if_eq (pc' := 87) (tg := 89) rfl rfl rfl (by decide) (by decide) (fun h276 => ?_) (fun h276 => ?_)
                    · have _q := h276
                      exact absurd h276 (by omega)
                    · have _q := h276
                      refine jx_ar (pc' := 88) (st' := [.int (i32 (0))]) rfl rfl rfl rfl ?_
                      refine jx_rt (v := some (.int (i32 (0)))) rfl rfl rfl rfl rfl rfl ?_
                      exact ⟨_, _, _, ln2_216, at2_217, fk2_218, nd2_219, sy2_220, na2_221, vi2_222, lf2_223, ec2_224, rfl, rfl, hW225, hF250, hP252, hS253, hV254, by omega, (e231), (e232), (e233), (e234), (e235), (e236), (e237), (e238), e239, by omega, by omega, by omega, by omega, by omega, by omega, by omega, by omega, by omega, by omega, by first | exact Or.inl (⟨by omega, by omega⟩)⟩
                  · have _q : True := trivial
                    exfalso
                    omega
                · have _q : True := trivial
                  refine jx_ld (pc' := 80) (l' := jSto1 L71 5 (.int (i32 (r215)))) (st' := []) rfl rfl ?_
                  obtain ⟨L277, eL277⟩ : ∃ q, q = jSto1 L71 5 (.int (i32 (r215))) := ⟨_, rfl⟩
                  rw [← eL277]
                  have gL277_0 : jGet L277 0 = some (.ref 66) := eL277 ▸ jg_ne (by decide) gL71_0 rfl
                  have gL277_1 : jGet L277 1 = some (.int (i32 (lv))) := eL277 ▸ jg_ne (by decide) gL71_1 rfl
                  have gL277_2 : jGet L277 2 = some (.int (i32 (n))) := eL277 ▸ jg_ne (by decide) gL71_2 rfl
                  have gL277_3 : jGet L277 3 = some (.int (i32 (last))) := eL277 ▸ jg_ne (by decide) gL71_3 rfl
                  have gL277_4 : jGet L277 4 = some (.int (i32 (nd1))) := eL277 ▸ jg_ne (by decide) gL71_4 rfl
                  have gL277_5 : jGet L277 5 = some (.int (i32 (r215))) := eL277 ▸ jg_eq
                  refine jx_ld (pc' := 81) (l' := L277) (st' := [.ref 66]) rfl (jl_aloadn gL277_0) ?_
                  refine jx_vr (pc' := 84) (as := []) (st := []) rfl rfl rfl rfl ⟨rfl, rfl, Nat.le_of_ble_eq_true rfl⟩ rfl rfl (c_bad (dd := d) (hd := by omega) (hW := hW225)  (fk := fk2_218) (e_fk := show G213 16 = fk2_218 from (e233))    ) (fun o V' hq => ?_)
                  obtain ⟨r278, rfl, rfl, b279, q280⟩ := hq
                  refine .inr ⟨_, rfl, ?_⟩
                  rcases q280 with ⟨rfl, a281⟩ | ⟨rfl, a282⟩
                  · have _q : True := trivial
                    exfalso
                    omega
                  · have _q : True := trivial
                    refine jx_if_eq (pc' := 87) (tg := 89) rfl rfl rfl (by decide) (by decide) (fun h283 => ?_) (fun h283 => ?_)
                    · have _q := h283
                      refine jx_ld (pc' := 90) (l' := L277) (st' := [.ref 66]) rfl (jl_aloadn gL277_0) ?_
                      refine jr_get (pc' := 93) (i := 38) (v := .ref 88) rfl rfl (by decide) rfl rfl ?_
                      refine jx_ld (pc' := 95) (l' := L277) (st' := [.int (i32 (nd1)), .ref 88]) rfl (jl_iload gL277_4) ?_
                      refine jx_ld (pc' := 97) (l' := L277) (st' := [.int (i32 (r215)), .int (i32 (nd1)), .ref 88]) rfl (jl_iload gL277_5) ?_
                      refine jr_st (pc' := 98) (i := 21) (m := 7000) (z := nd1) (y := r215) rfl (by decide) rfl (by decide) (by omega) (by omega) rfl ?_
                      have hW285 : Wk G213 (uA A214 21 (nd1).toNat (r215)) := Wk_a hW225 (show (-2147483648 : Int) ≤ r215 by omega) (show r215 ≤ (2147483647 : Int) by omega)
                      have hF286 := Fr_a (z := r215) (k := 21) (n := (nd1).toNat) hF250 (by decide)
                      obtain ⟨A284, eA284⟩ : ∃ q, q = uA A214 21 (nd1).toNat (r215) := ⟨_, rfl⟩
                      rw [← eA284]
                      rw [← eA284] at hW285 hF286
                      have q287 : A284 21 (nd1).toNat = r215 := by rw [eA284]; exact uA_eq
                      have hP288 : Pf nd A A284 := eA284 ▸ Pf_a hP252 (z := nd1) (by omega) (by omega)
                      have hS289 : Fx sr (sy) A A284 := eA284 ▸ Fx_n hS253 rfl
                      have hV290 : Fx [14] (vi) A A284 := eA284 ▸ Fx_n hV254 rfl
                      have sf291 : ND A284 (n) (30) (0) (0) (0) (0) (Ax 21 (n).toNat) (0) := ND_ag (by omega) (Ag_st eA284 (by omega) (by omega)) sf255
                      have sf292 : CI 1 A284 (sy1) pb (k) (Vs) (n) (last) (n + 1) (nd1) (sy) (sy1) := CI_ag (by omega) (by omega) (Sg_ne eA284 rfl) (Qg_ne eA284 rfl) (Ag_st eA284 (by omega) (by omega)) ((by rw [eA284]; exact uA_ni (by omega))) sf256
                      have sf293 : ND A284 (nd1) (34) (r74) (0) (0) (0) (r215) (0) := ND_f eA284 sf257
                      have sf294 : wE A284 Vs sb (2 * 9 + 2) (r74) (nd2_54) (nd2_78) := wE_ag (by omega) (Sg_ne eA284 rfl) (Ag_st eA284 (by omega) (by omega)) sf258
                      have sf295 : wP A284 (sy2_220) pb (k) (Vs) (r215) (nd2_78) (nd2_219) (sy1) (sy2_220) := wP_ag (Sg_ne eA284 rfl) (Qg_ne eA284 rfl) (by omega) (by omega) (Ax_ag (Ag_st eA284 (by omega) (by omega))) a267
                      have sf296 : NX A284 (r215) := NX_r eA284 (by decide) a268
                      have ec297 : ecn A284 (G213 31) = ec2_224 := (ecn_e ((congrFun eA284 15).trans (uA_ne (by decide)))).trans e239
                      refine jx_ld (pc' := 99) (l' := L277) (st' := [.ref 66]) rfl (jl_aloadn gL277_0) ?_
                      refine jx_ld (pc' := 100) (l' := L277) (st' := [.int (i32 (n)), .ref 66]) rfl (jl_iloadn gL277_2) ?_
                      refine jx_ld (pc' := 101) (l' := L277) (st' := [.int (i32 (last)), .int (i32 (n)), .ref 66]) rfl (jl_iloadn gL277_3) ?_
                      refine jx_ld (pc' := 103) (l' := L277) (st' := [.int (i32 (nd1)), .int (i32 (last)), .int (i32 (n)), .ref 66]) rfl (jl_iload gL277_4) ?_
                      refine jx_vr (pc' := 106) (as := [.int (i32 (n)), .int (i32 (last)), .int (i32 (nd1))]) (st := []) rfl rfl rfl rfl ⟨rfl, rfl, Nat.le_of_ble_eq_true rfl⟩ rfl rfl (c_addTo (dd := d) (zz := nd) (hd := by omega) (hW := hW285) (n := n) (last := last) (one := nd1)   (h_n := ⟨(Int.le_trans (by decide : (-2147483648 : Int) ≤ -2147483648) rx_n.1), (Int.le_trans rx_n.2 (by decide : (2147483647 : Int) ≤ 2147483647))⟩) (h_last := ⟨(Int.le_trans (by decide : (-2147483648 : Int) ≤ -2147483648) rx_last.1), (Int.le_trans rx_last.2 (by decide : (2147483647 : Int) ≤ 2147483647))⟩) (h_one := ⟨(Int.le_trans (by decide : (-2147483648 : Int) ≤ 0) b_nd1.1), (Int.le_trans b_nd1.2 (by decide : (6999 : Int) ≤ 2147483647))⟩)  (p_0 := by omega) (p_1 := by omega) (p_2 := by omega) (p_3 := by omega)) (fun o V' hq => ?_)
                      obtain ⟨G298, A299, rfl, rfl, hW300, hF301, hQ302, q303⟩ := hq
                      have hF304 := Fr_tr hF286 hF301 (Fr_sub (by decide)) (Fr_sub (by decide))
                      have hP305 := Pf_tr hP288 hQ302 (by omega)
                      have hS306 := Fx_f hS289 hF301 (by decide)
                      have hV307 := Fx_f hV290 hF301 (by decide)
                      have ec308 : ecn A299 (G298 31) = ec2_224 := (ecn_f (hF301.2 15 rfl) (hF301.1 31 rfl)).trans ec297
                      refine .inl ⟨rfl, ?_⟩
                      rcases q303 with ⟨a309, a310⟩ | ⟨a311, a312⟩
                      · have _q : True := trivial
                        have sf313 : ND A299 (n) (30) (0) (0) (0) (0) (nd1) (0) := ND_f a310 sf291
                        have sf314 : CI 1 A299 (sy2_220) pb (k) (Vs) (n) (nd1) (n + 1) (nd2_219) (sy) (sy2_220) := CI_one a310 (by omega) (by omega) (by omega) (by omega) (by omega) (by omega) (show RQ 1 A284 (sy2_220) pb (k) (Vs) (nd1) (nd1) (nd2_219) (sy1) (sy2_220) from wI_mk (m := nd2_78) sf293 (by omega) (by omega) (by omega) (wE_sb (by omega) (wE_mono (by omega) (by omega) (by omega) sf294)) (wP_eq sf295 (by omega) rfl rfl (by omega) rfl (by omega) rfl (by omega))) (NX_nd sf293) (CI_sb (by omega) sf292)
                        have sf315 : ND A299 (nd1) (34) (r74) (0) (0) (0) (r215) (0) := ND_ag (by omega) (Ag_st a310 (by omega) (by omega)) sf293
                        have sf316 : wE A299 Vs sb (2 * 9 + 2) (r74) (nd2_54) (nd2_78) := wE_ag (by omega) (Sg_ne a310 rfl) (Ag_st a310 (by omega) (by omega)) sf294
                        have sf317 : wP A299 (sy2_220) pb (k) (Vs) (r215) (nd2_78) (nd2_219) (sy1) (sy2_220) := wP_ag (Sg_ne a310 rfl) (Qg_ne a310 rfl) (by omega) (by omega) (Ax_ag (Ag_st a310 (by omega) (by omega))) sf295
                        have sf318 : NX A299 (r215) := NX_r a310 (by decide) sf296
                        refine jx_ld (pc' := 108) (l' := L277) (st' := [.int (i32 (nd1))]) rfl (jl_iload gL277_4) ?_
                        refine jx_ld (pc' := 109) (l' := jSto1 L277 3 (.int (i32 (nd1)))) (st' := []) rfl rfl ?_
                        obtain ⟨L319, eL319⟩ : ∃ q, q = jSto1 L277 3 (.int (i32 (nd1))) := ⟨_, rfl⟩
                        rw [← eL319]
                        have gL319_0 : jGet L319 0 = some (.ref 66) := eL319 ▸ jg_ne (by decide) gL277_0 rfl
                        have gL319_1 : jGet L319 1 = some (.int (i32 (lv))) := eL319 ▸ jg_ne (by decide) gL277_1 rfl
                        have gL319_2 : jGet L319 2 = some (.int (i32 (n))) := eL319 ▸ jg_ne (by decide) gL277_2 rfl
                        have gL319_4 : jGet L319 4 = some (.int (i32 (nd1))) := eL319 ▸ jg_ne (by decide) gL277_4 rfl
                        have gL319_5 : jGet L319 5 = some (.int (i32 (r215))) := eL319 ▸ jg_ne (by decide) gL277_5 rfl
                        have gL319_3 : jGet L319 3 = some (.int (i32 (nd1))) := eL319 ▸ jg_eq
                        refine jx_go (tg := 21) rfl rfl ?_
                        exact ih21 _ (by omega) L319 G298 A299 (n) (nd1) (ln2_216) (at2_217) (fk2_218) (nd2_219) (sy2_220) (na2_221) (vi2_222) (lf2_223) (ec2_224) rfl gL319_0 gL319_1 gL319_2 gL319_3 hW300 hF304 hP305 hS306 hV307 (((hF301.1 9 rfl).trans (e231))) (((hF301.1 10 rfl).trans (e232))) (((hF301.1 16 rfl).trans (e233))) (((hF301.1 31 rfl).trans (e234))) (((hF301.1 19 rfl).trans (e235))) (((hF301.1 28 rfl).trans (e236))) (((hF301.1 29 rfl).trans (e237))) ((congrFun ((hF301.2 3 rfl).trans ((congrFun eA284 3).trans (uA_ne (by decide)))) _).trans (e238)) (ec308) (by omega) (by omega) (by omega) (by omega) (by omega) (by omega) (by omega) (by omega) (by omega) (by omega) (by omega) (by omega) (by omega) (by omega) (by omega) (by omega) ((ND_sf sf313)) (sf314) (by omega)
                      · have _q : True := trivial
                        have sf320 : ND A299 (n) (30) (0) (0) (0) (0) (Ax 21 (n).toNat) (0) := ND_ag (by omega) (Ag_st a312 (by omega) (by omega)) sf291
                        have sf321 : CI 1 A299 (sy2_220) pb (k) (Vs) (n) (nd1) (n + 1) (nd2_219) (sy) (sy2_220) := CI_two a312 (by omega) (by omega) (by omega) (by omega) (by omega) (show RQ 1 A284 (sy2_220) pb (k) (Vs) (nd1) (nd1) (nd2_219) (sy1) (sy2_220) from wI_mk (m := nd2_78) sf293 (by omega) (by omega) (by omega) (wE_sb (by omega) (wE_mono (by omega) (by omega) (by omega) sf294)) (wP_eq sf295 (by omega) rfl rfl (by omega) rfl (by omega) rfl (by omega))) (NX_nd sf293) (CI_sb (by omega) sf292)
                        have sf322 : ND A299 (nd1) (34) (r74) (0) (0) (0) (r215) (0) := ND_ag (by omega) (Ag_st a312 (by omega) (by omega)) sf293
                        have sf323 : wE A299 Vs sb (2 * 9 + 2) (r74) (nd2_54) (nd2_78) := wE_ag (by omega) (Sg_ne a312 rfl) (Ag_st a312 (by omega) (by omega)) sf294
                        have sf324 : wP A299 (sy2_220) pb (k) (Vs) (r215) (nd2_78) (nd2_219) (sy1) (sy2_220) := wP_ag (Sg_ne a312 rfl) (Qg_ne a312 rfl) (by omega) (by omega) (Ax_ag (Ag_st a312 (by omega) (by omega))) sf295
                        have sf325 : NX A299 (r215) := NX_ag (by omega) (Ag_st a312 (by omega) (by omega)) sf296
                        refine jx_ld (pc' := 108) (l' := L277) (st' := [.int (i32 (nd1))]) rfl (jl_iload gL277_4) ?_
                        refine jx_ld (pc' := 109) (l' := jSto1 L277 3 (.int (i32 (nd1)))) (st' := []) rfl rfl ?_
                        obtain ⟨L326, eL326⟩ : ∃ q, q = jSto1 L277 3 (.int (i32 (nd1))) := ⟨_, rfl⟩
                        rw [← eL326]
                        have gL326_0 : jGet L326 0 = some (.ref 66) := eL326 ▸ jg_ne (by decide) gL277_0 rfl
                        have gL326_1 : jGet L326 1 = some (.int (i32 (lv))) := eL326 ▸ jg_ne (by decide) gL277_1 rfl
                        have gL326_2 : jGet L326 2 = some (.int (i32 (n))) := eL326 ▸ jg_ne (by decide) gL277_2 rfl
                        have gL326_4 : jGet L326 4 = some (.int (i32 (nd1))) := eL326 ▸ jg_ne (by decide) gL277_4 rfl
                        have gL326_5 : jGet L326 5 = some (.int (i32 (r215))) := eL326 ▸ jg_ne (by decide) gL277_5 rfl
                        have gL326_3 : jGet L326 3 = some (.int (i32 (nd1))) := eL326 ▸ jg_eq
                        refine jx_go (tg := 21) rfl rfl ?_
                        exact ih21 _ (by omega) L326 G298 A299 (n) (nd1) (ln2_216) (at2_217) (fk2_218) (nd2_219) (sy2_220) (na2_221) (vi2_222) (lf2_223) (ec2_224) rfl gL326_0 gL326_1 gL326_2 gL326_3 hW300 hF304 hP305 hS306 hV307 (((hF301.1 9 rfl).trans (e231))) (((hF301.1 10 rfl).trans (e232))) (((hF301.1 16 rfl).trans (e233))) (((hF301.1 31 rfl).trans (e234))) (((hF301.1 19 rfl).trans (e235))) (((hF301.1 28 rfl).trans (e236))) (((hF301.1 29 rfl).trans (e237))) ((congrFun ((hF301.2 3 rfl).trans ((congrFun eA284 3).trans (uA_ne (by decide)))) _).trans (e238)) (ec308) (by omega) (by omega) (by omega) (by omega) (by omega) (by omega) (by omega) (by omega) (by omega) (by omega) (by omega) (by omega) (by omega) (by omega) (by omega) (by omega) ((ND_sf sf320)) (sf321) (by omega)
                    · have _q := h283
                      exact absurd h283 (by omega)
              · have _q := h212
                exact absurd h212 (by omega)
          · have _q : True := trivial
            refine jx_ld (pc' := 61) (l' := L71) (st' := [.ref 66]) rfl (jl_aloadn gL71_0) ?_
            refine jx_vr (pc' := 64) (as := []) (st := []) rfl rfl rfl rfl ⟨rfl, rfl, Nat.le_of_ble_eq_true rfl⟩ rfl rfl (c_bad (dd := d) (hd := by omega) (hW := hW184)  (fk := fk2_183) (e_fk := show G180 16 = fk2_183 from (e187))    ) (fun o V' hq => ?_)
            obtain ⟨r327, rfl, rfl, b328, q329⟩ := hq
            refine .inr ⟨_, rfl, ?_⟩
            rcases q329 with ⟨rfl, a330⟩ | ⟨rfl, a331⟩
            · have _q : True := trivial
              refine jx_if_eq (pc' := 67) (tg := 71) rfl rfl rfl (by decide) (by decide) (fun h332 => ?_) (fun h332 => ?_)
              · have _q := h332
                exact absurd h332 (by omega)
              · have _q := h332
                refine jx_ar (pc' := 68) (st' := [.int (i32 (0))]) rfl rfl rfl rfl ?_
                refine jx_go (tg := 78) rfl rfl ?_
                refine jx_ld (pc' := 80) (l' := jSto1 L71 5 (.int (i32 (0)))) (st' := []) rfl rfl ?_
                obtain ⟨L333, eL333⟩ : ∃ q, q = jSto1 L71 5 (.int (i32 (0))) := ⟨_, rfl⟩
                rw [← eL333]
                have gL333_0 : jGet L333 0 = some (.ref 66) := eL333 ▸ jg_ne (by decide) gL71_0 rfl
                have gL333_1 : jGet L333 1 = some (.int (i32 (lv))) := eL333 ▸ jg_ne (by decide) gL71_1 rfl
                have gL333_2 : jGet L333 2 = some (.int (i32 (n))) := eL333 ▸ jg_ne (by decide) gL71_2 rfl
                have gL333_3 : jGet L333 3 = some (.int (i32 (last))) := eL333 ▸ jg_ne (by decide) gL71_3 rfl
                have gL333_4 : jGet L333 4 = some (.int (i32 (nd1))) := eL333 ▸ jg_ne (by decide) gL71_4 rfl
                have gL333_5 : jGet L333 5 = some (.int (i32 (0))) := eL333 ▸ jg_eq
                refine jx_ld (pc' := 81) (l' := L333) (st' := [.ref 66]) rfl (jl_aloadn gL333_0) ?_
                refine jx_vr (pc' := 84) (as := []) (st := []) rfl rfl rfl rfl ⟨rfl, rfl, Nat.le_of_ble_eq_true rfl⟩ rfl rfl (c_bad (dd := d) (hd := by omega) (hW := hW184)  (fk := fk2_183) (e_fk := show G180 16 = fk2_183 from (e187))    ) (fun o V' hq => ?_)
                obtain ⟨r334, rfl, rfl, b335, q336⟩ := hq
                refine .inr ⟨_, rfl, ?_⟩
                rcases q336 with ⟨rfl, a337⟩ | ⟨rfl, a338⟩
                · have _q : True := trivial
                  refine jx_if_eq (pc' := 87) (tg := 89) rfl rfl rfl (by decide) (by decide) (fun h339 => ?_) (fun h339 => ?_)
                  · have _q := h339
                    exact absurd h339 (by omega)
                  · have _q := h339
                    refine jx_ar (pc' := 88) (st' := [.int (i32 (0))]) rfl rfl rfl rfl ?_
                    refine jx_rt (v := some (.int (i32 (0)))) rfl rfl rfl rfl rfl rfl ?_
                    exact ⟨_, _, _, ln2_182, at2_75, fk2_183, nd2_78, sy1, na1, vi1, A 3 (ln2_182).toNat, ec2_80, rfl, rfl, hW184, hF189, hP190, hS191, hV192, by omega, (e186), ((hF185.1 10 rfl).trans (e85)), (e187), ((hF185.1 31 rfl).trans (e88)), ((hF185.1 19 rfl).trans ((hF82.1 19 rfl).trans ((hF57.1 19 rfl).trans ((hF35.1 19 rfl).trans ((hF7.1 19 rfl).trans (ex_sy1)))))), ((hF185.1 28 rfl).trans ((hF82.1 28 rfl).trans ((hF57.1 28 rfl).trans ((hF35.1 28 rfl).trans ((hF7.1 28 rfl).trans (ex_na1)))))), ((hF185.1 29 rfl).trans ((hF82.1 29 rfl).trans ((hF57.1 29 rfl).trans ((hF35.1 29 rfl).trans ((hF7.1 29 rfl).trans (ex_vi1)))))), (congrFun ((hF185.2 3 rfl).trans (((congrFun eA168 3).trans (uA_ne (by decide))).trans ((hF82.2 3 rfl).trans ((hF57.2 3 rfl).trans ((hF35.2 3 rfl).trans ((hF7.2 3 rfl).trans (hFx.2 3 rfl))))))) _), ec197, by omega, by omega, by omega, by omega, by omega, by omega, by omega, by omega, by omega, by omega, by first | exact Or.inl (⟨by omega, by omega⟩)⟩
                · have _q : True := trivial
                  exfalso
                  omega
            · have _q : True := trivial
              exfalso
              omega
    · have _q : True := trivial
      refine jx_if_eq (pc' := 29) (tg := 112) rfl rfl rfl (by decide) (by decide) (fun h340 => ?_) (fun h340 => ?_)
      · have _q := h340
        refine jx_ld (pc' := 113) (l' := L) (st' := [.ref 66]) rfl (jl_aloadn gL_0) ?_
        refine jx_vr (pc' := 116) (as := []) (st := []) rfl rfl rfl rfl ⟨rfl, rfl, Nat.le_of_ble_eq_true rfl⟩ rfl rfl (c_bad (dd := d) (hd := by omega) (hW := hW6)  (fk := fk2_5) (e_fk := show G2 16 = fk2_5 from (e9))    ) (fun o V' hq => ?_)
        obtain ⟨r341, rfl, rfl, b342, q343⟩ := hq
        refine .inr ⟨_, rfl, ?_⟩
        rcases q343 with ⟨rfl, a344⟩ | ⟨rfl, a345⟩
        · have _q : True := trivial
          refine jx_if_ne (pc' := 119) (tg := 131) rfl rfl rfl (by decide) (by decide) (fun h346 => ?_) (fun h346 => ?_)
          · have _q := h346
            refine jx_ld (pc' := 132) (l' := L) (st' := [.int (i32 (n))]) rfl (jl_iloadn gL_2) ?_
            refine jx_rt (v := some (.int (i32 (n)))) rfl rfl rfl rfl rfl rfl ?_
            exact ⟨_, _, _, ln1, at1, fk2_5, nd1, sy1, na1, vi1, lf1, ec1, rfl, rfl, hW6, hF11, hP12, hS13, hV14, by omega, ((hF7.1 9 rfl).trans (ex_ln1)), ((hF7.1 10 rfl).trans (ex_at1)), (e9), ((hF7.1 31 rfl).trans (ex_nd1)), ((hF7.1 19 rfl).trans (ex_sy1)), ((hF7.1 28 rfl).trans (ex_na1)), ((hF7.1 29 rfl).trans (ex_vi1)), (congrFun (hF7.2 3 rfl) _).trans (ex_lf1), ec17, by omega, by omega, by omega, by omega, by omega, by omega, by omega, by omega, by omega, by omega, by first | exact Or.inl (⟨by omega, by omega⟩)⟩
          · have _q := h346
            exact absurd h346 (by omega)
        · have _q : True := trivial
          exfalso
          omega
      · have _q := h340
        exact absurd h340 (by omega)
    · have _q : True := trivial
      refine jx_if_eq (pc' := 29) (tg := 112) rfl rfl rfl (by decide) (by decide) (fun h347 => ?_) (fun h347 => ?_)
      · have _q := h347
        refine jx_ld (pc' := 113) (l' := L) (st' := [.ref 66]) rfl (jl_aloadn gL_0) ?_
        refine jx_vr (pc' := 116) (as := []) (st := []) rfl rfl rfl rfl ⟨rfl, rfl, Nat.le_of_ble_eq_true rfl⟩ rfl rfl (c_bad (dd := d) (hd := by omega) (hW := hW6)  (fk := fk2_5) (e_fk := show G2 16 = fk2_5 from (e9))    ) (fun o V' hq => ?_)
        obtain ⟨r348, rfl, rfl, b349, q350⟩ := hq
        refine .inr ⟨_, rfl, ?_⟩
        rcases q350 with ⟨rfl, a351⟩ | ⟨rfl, a352⟩
        · have _q : True := trivial
          exfalso
          omega
        · have _q : True := trivial
          refine jx_if_ne (pc' := 119) (tg := 131) rfl rfl rfl (by decide) (by decide) (fun h353 => ?_) (fun h353 => ?_)
          · have _q := h353
            exact absurd h353 (by omega)
          · have _q := h353
            refine jx_ld (pc' := 120) (l' := L) (st' := [.int (i32 (last))]) rfl (jl_iloadn gL_3) ?_
            refine jx_if_ne (pc' := 123) (tg := 131) rfl rfl rfl (Int.le_trans (by decide : (-2147483648 : Int) ≤ -2147483648) rx_last.1) (Int.le_trans rx_last.2 (by decide : (2147483647 : Int) ≤ 2147483647)) (fun h354 => ?_) (fun h354 => ?_)
            · have _q := h354
              refine jx_ld (pc' := 132) (l' := L) (st' := [.int (i32 (n))]) rfl (jl_iloadn gL_2) ?_
              refine jx_rt (v := some (.int (i32 (n)))) rfl rfl rfl rfl rfl rfl ?_
              exact ⟨_, _, _, ln1, at1, fk2_5, nd1, sy1, na1, vi1, lf1, ec1, rfl, rfl, hW6, hF11, hP12, hS13, hV14, by omega, ((hF7.1 9 rfl).trans (ex_ln1)), ((hF7.1 10 rfl).trans (ex_at1)), (e9), ((hF7.1 31 rfl).trans (ex_nd1)), ((hF7.1 19 rfl).trans (ex_sy1)), ((hF7.1 28 rfl).trans (ex_na1)), ((hF7.1 29 rfl).trans (ex_vi1)), (congrFun (hF7.2 3 rfl) _).trans (ex_lf1), ec17, by omega, by omega, by omega, by omega, by omega, by omega, by omega, by omega, by omega, by omega, by first | exact Or.inr ((⟨by omega, by omega, by omega, by omega, by omega, by omega, by omega, (wS_ifc sf15 (CI_eq (CI_sb (by omega) sf16) rfl (by omega) (by omega) (by omega) (by omega)) (by omega)), (NX_nd sf15), by omega⟩))⟩
            · have _q := h354
              refine jx_ld (pc' := 124) (l' := L) (st' := [.ref 66]) rfl (jl_aloadn gL_0) ?_
              refine jx_ld (pc' := 125) (l' := L) (st' := [.int (i32 (lv)), .ref 66]) rfl (jl_iloadn gL_1) ?_
              refine jx_ar (pc' := 126) (st' := [.int (i32 (1)), .int (i32 (lv)), .ref 66]) rfl rfl rfl rfl ?_
              refine jx_add (pc' := 127) rfl rfl ?_
              refine jx_vr (pc' := 130) (as := [.int (i32 ((lv + 1)))]) (st := []) rfl rfl rfl rfl ⟨rfl, rfl, Nat.le_of_ble_eq_true rfl⟩ rfl rfl (c_needLevel (dd := d) (hd := by omega) (hW := hW6) (lv := (lv + 1)) (ln := ln1) (e_ln := show G2 9 = ln1 from ((hF7.1 9 rfl).trans (ex_ln1))) (li := li) (e_li := show G2 3 = li from ((hF7.1 3 rfl).trans ((hFx.1 3 rfl).trans (e_li)))) (fk := fk2_5) (e_fk := show G2 16 = fk2_5 from (e9)) (ll := A 5 (ln1).toNat) (e_ll := show A3 5 (ln1).toNat = A 5 (ln1).toNat from (congrFun ((hF7.2 5 rfl).trans (hFx.2 5 rfl)) _))  (h_lv := ⟨(by omega), (by omega)⟩)  ) (fun o V' hq => ?_)
              obtain ⟨G355, A356, r357, fk2_358, rfl, rfl, hW359, hF360, b361, e362, q363⟩ := hq
              have hF364 := Fr_tr hF11 hF360 (Fr_sub (by decide)) (Fr_sub (by decide))
              have hP365 := Pf_f hP12 hF360 (by decide)
              have hS366 := Fx_f hS13 hF360 (by decide)
              have hV367 := Fx_f hV14 hF360 (by decide)
              have sf368 : ND A356 (n) (30) (0) (0) (0) (0) (Ax 21 (n).toNat) (0) := ND_ag (by omega) (Ag_fr hF360 (by decide)) sf15
              have sf369 : CI 1 A356 (sy1) pb (k) (Vs) (n) (last) (n + 1) (nd1) (sy) (sy1) := CI_ag (by omega) (by omega) (Sg_fr hF360 (by decide)) (Qg_fr hF360 (by decide)) (Ag_fr hF360 (by decide)) (congrFun (hF360.2 21 rfl) _) sf16
              have ec370 : ecn A356 (G355 31) = ec1 := (ecn_f (hF360.2 15 rfl) (hF360.1 31 rfl)).trans ec17
              have bfk2_358 : (0 : Int) ≤ fk2_358 ∧ fk2_358 ≤ 6 := e362 ▸ hW359.1 16
              refine .inr ⟨_, rfl, ?_⟩
              rcases q363 with ⟨rfl, a371, a372, a373, a374⟩ | ⟨rfl, a375⟩
              · have _q : True := trivial
                have b376 : (0 : Int) ≤ A 4 (ln1).toNat ∧ A 4 (ln1).toNat ≤ 3000 := hW.2 4 _
                have lt377 : lf1 < A 4 (ln1).toNat := LT_at (LT_ext (((hF360.1 3 rfl).trans ((hF7.1 3 rfl).trans (hFx.1 3 rfl)))) (((hF360.2 3 rfl).trans ((hF7.2 3 rfl).trans (hFx.2 3 rfl)))) (((hF360.2 4 rfl).trans ((hF7.2 4 rfl).trans (hFx.2 4 rfl)))) i_LT) (show G355 3 = li from ((hF360.1 3 rfl).trans ((hF7.1 3 rfl).trans ((hFx.1 3 rfl).trans (e_li))))) (show A356 3 (ln1).toNat = lf1 from (congrFun ((hF360.2 3 rfl).trans (hF7.2 3 rfl)) _).trans (ex_lf1)) (show A356 4 (ln1).toNat = A 4 (ln1).toNat from (congrFun ((hF360.2 4 rfl).trans ((hF7.2 4 rfl).trans (hFx.2 4 rfl))) _)) (by omega) (by omega)
                refine jx_ar (pc' := 131) (st' := []) rfl rfl rfl rfl ?_
                refine jx_ld (pc' := 132) (l' := L) (st' := [.int (i32 (n))]) rfl (jl_iloadn gL_2) ?_
                refine jx_rt (v := some (.int (i32 (n)))) rfl rfl rfl rfl rfl rfl ?_
                exact ⟨_, _, _, ln1, at1, fk2_358, nd1, sy1, na1, vi1, lf1, ec1, rfl, rfl, hW359, hF364, hP365, hS366, hV367, by omega, ((hF360.1 9 rfl).trans ((hF7.1 9 rfl).trans (ex_ln1))), ((hF360.1 10 rfl).trans ((hF7.1 10 rfl).trans (ex_at1))), (e362), ((hF360.1 31 rfl).trans ((hF7.1 31 rfl).trans (ex_nd1))), ((hF360.1 19 rfl).trans ((hF7.1 19 rfl).trans (ex_sy1))), ((hF360.1 28 rfl).trans ((hF7.1 28 rfl).trans (ex_na1))), ((hF360.1 29 rfl).trans ((hF7.1 29 rfl).trans (ex_vi1))), (congrFun ((hF360.2 3 rfl).trans (hF7.2 3 rfl)) _).trans (ex_lf1), ec370, by omega, by omega, by omega, by omega, by omega, by omega, by omega, by omega, by omega, by omega, by first | exact Or.inr ((⟨by omega, by omega, by omega, by omega, by omega, by omega, by omega, (wS_ifc sf368 (CI_eq (CI_sb (by omega) sf369) rfl (by omega) (by omega) (by omega) (by omega)) (by omega)), (NX_nd sf368), by omega⟩))⟩
              · have _q : True := trivial
                refine jx_ar (pc' := 131) (st' := []) rfl rfl rfl rfl ?_
                refine jx_ld (pc' := 132) (l' := L) (st' := [.int (i32 (n))]) rfl (jl_iloadn gL_2) ?_
                refine jx_rt (v := some (.int (i32 (n)))) rfl rfl rfl rfl rfl rfl ?_
                exact ⟨_, _, _, ln1, at1, fk2_358, nd1, sy1, na1, vi1, lf1, ec1, rfl, rfl, hW359, hF364, hP365, hS366, hV367, by omega, ((hF360.1 9 rfl).trans ((hF7.1 9 rfl).trans (ex_ln1))), ((hF360.1 10 rfl).trans ((hF7.1 10 rfl).trans (ex_at1))), (e362), ((hF360.1 31 rfl).trans ((hF7.1 31 rfl).trans (ex_nd1))), ((hF360.1 19 rfl).trans ((hF7.1 19 rfl).trans (ex_sy1))), ((hF360.1 28 rfl).trans ((hF7.1 28 rfl).trans (ex_na1))), ((hF360.1 29 rfl).trans ((hF7.1 29 rfl).trans (ex_vi1))), (congrFun ((hF360.2 3 rfl).trans (hF7.2 3 rfl)) _).trans (ex_lf1), ec370, by omega, by omega, by omega, by omega, by omega, by omega, by omega, by omega, by omega, by omega, by first | exact Or.inl (⟨by omega, by omega⟩)⟩
      · have _q := h347
        exact absurd h347 (by omega)
set_option maxRecDepth 20000 in
set_option maxHeartbeats 4000000 in
theorem c_readIf_w {X : jX} {k : Nat} (hP : RPw X k) {dd : Nat} {Vs : Nat → Prop} {sb pb : Int} (hvb : VB Vs sb) {c0 c1 : jC} {G : Nat → Int} {A : Nat → Nat → Int} {T : jH} {lv : Int} {ln li at0 fk nd sy na vi le op0 tk0 ec : Int} (hd : 8 * k + 82 ≤ dd) (hW : Wk G A) (e_ln : G 9 = ln) (e_li : G 3 = li) (e_at0 : G 10 = at0) (e_fk : G 16 = fk) (e_nd : G 31 = nd) (e_sy : G 19 = sy) (e_na : G 28 = na) (e_vi : G 29 = vi) (e_le : A 4 (ln).toNat = le) (e_op0 : G 15 = op0) (e_tk0 : G 11 = tk0) (e_ec : ecn A (G 31) = ec) (i_LT : LT G A) (i_SV : SV Vs sb G A) (i_PQ : PQ Vs sb pb G A) (h_lv : (-2147483648 : Int) ≤ lv ∧ lv ≤ 2147483647) (p_0 : 0 ≤ lv ∧ lv ≤ 15) (p_1 : 18 - lv ≤ ((k + 1 : Nat) : Int)) (p_2 : fk = 0) (p_3 : ln < li) (p_4 : at0 ≤ le) (p_5 : op0 = 0) (p_6 : nd ≤ 2 * at0 - tz tk0 + 30) (p_7 : sy ≤ na + 2) (p_8 : vi ≤ sy) (p_9 : sb = sy) (p_10 : 1 ≤ tk0) : wk X dd 301 [.ref 66, .int (i32 lv)] (rV c0 c1 G A T) (fun o V' => ∃ (G' : Nat → Int) (A' : Nat → Nat → Int) (r : Int) (ln2 : Int) (at2 : Int) (fk2 : Int) (nd2 : Int) (sy2 : Int) (na2 : Int) (vi2 : Int) (lf2 : Int) (ec2 : Int), V' = rV c0 c1 G' A' T ∧ o = .inl (some (.int (i32 r))) ∧ Wk G' A' ∧ Fr [9, 10, 11, 12, 13, 14, 15, 16, 17, 18, 19, 28, 29, 31] [6, 7, 8, 9, 10, 11, 12, 14, 15, 16, 17, 18, 19, 20, 21, 22, 23, 24, 28] G A G' A' ∧ Pf nd A A' ∧ Fx sr (sy) A A' ∧ Fx [14] (vi) A A' ∧ ((-2147483648 : Int) ≤ r ∧ r ≤ 2147483647) ∧ G' 9 = ln2 ∧ G' 10 = at2 ∧ G' 16 = fk2 ∧ G' 31 = nd2 ∧ G' 19 = sy2 ∧ G' 28 = na2 ∧ G' 29 = vi2 ∧ A' 3 (ln2).toNat = lf2 ∧ ecn A' (G' 31) = ec2 ∧ (at0 ≤ at2) ∧ (nd ≤ nd2) ∧ (sy ≤ sy2) ∧ (sy2 ≤ na2 + 2) ∧ (vi ≤ vi2) ∧ (vi2 ≤ vi + 1) ∧ (0 ≤ r) ∧ (r ≤ 6999) ∧ (ln ≤ ln2) ∧ (ln2 ≤ li) ∧ (((1 ≤ fk2) ∧ (nd2 - nd ≤ 2 * at2 - (2 * at0 - tz tk0) + 14)) ∨ ((fk2 = 0) ∧ (vi2 = vi) ∧ (ln < ln2) ∧ (nd2 - nd ≤ 2 * at2 - (2 * at0 - tz tk0)) ∧ (at2 < lf2 ∨ li ≤ ln2) ∧ (nd ≤ r) ∧ (r < nd2) ∧ (wSt A' (sy2) pb (wP A' (sy2) pb (k)) (Vs) (r) (nd) (nd2) (sy) (sy2)) ∧ (NX A' (r)) ∧ (nd2 - nd + 5 * (ec2 - ec) ≤ 2 * at2 - (2 * at0 - tz tk0))))) := by
  obtain ⟨d, rfl⟩ : ∃ d, dd = d + 1 := ⟨dd - 1, by omega⟩
  refine wk_of (e := jm301) rfl (Nat.le_of_ble_eq_true rfl) ?_
  show wj X d jm301 (0, [(0, .ref 66), (1, .int (i32 (lv)))], [], rV c0 c1 G A T) _
  have hF0 : Fr [9, 10, 11, 12, 13, 14, 15, 16, 17, 18, 19, 28, 29, 31] [6, 7, 8, 9, 10, 11, 12, 14, 15, 16, 17, 18, 19, 20, 21, 22, 23, 24, 28] G A G A := Fr_rf
  have hP0 : Pf nd A A := Pf_rf
  have hS0 : Fx sr (sy) A A := Fx_rf
  have hV0 : Fx [14] (vi) A A := Fx_rf
  have b_ln : (0 : Int) ≤ ln ∧ ln ≤ 3000 := e_ln ▸ hW.1 9
  have b_li : (0 : Int) ≤ li ∧ li ≤ 3000 := e_li ▸ hW.1 3
  have b_at0 : (0 : Int) ≤ at0 ∧ at0 ≤ 3002 := e_at0 ▸ hW.1 10
  have b_fk : (0 : Int) ≤ fk ∧ fk ≤ 6 := e_fk ▸ hW.1 16
  have b_nd : (0 : Int) ≤ nd ∧ nd ≤ 6999 := e_nd ▸ hW.1 31
  have b_sy : (0 : Int) ≤ sy ∧ sy ≤ 202 := e_sy ▸ hW.1 19
  have b_na : (0 : Int) ≤ na ∧ na ≤ 200 := e_na ▸ hW.1 28
  have b_vi : (0 : Int) ≤ vi ∧ vi ≤ 202 := e_vi ▸ hW.1 29
  have b_le : (0 : Int) ≤ le ∧ le ≤ 3000 := e_le ▸ hW.2 4 _
  have b_op0 : (-2147483648 : Int) ≤ op0 ∧ op0 ≤ 2147483647 := e_op0 ▸ hW.1 15
  have z_tk0 := tz_f tk0
  have b_tk0 : (0 : Int) ≤ tk0 ∧ tk0 ≤ 5 := e_tk0 ▸ hW.1 11
  refine jx_ld (pc' := 1) (l' := [(0, .ref 66), (1, .int (i32 (lv)))]) (st' := [.ref 66]) rfl (jl_aloadn rfl) ?_
  refine jx_ar (pc' := 3) (st' := [.int (i32 (30)), .ref 66]) rfl rfl rfl rfl ?_
  refine jx_ar (pc' := 4) (st' := [.int (i32 (0)), .int (i32 (30)), .ref 66]) rfl rfl rfl rfl ?_
  refine jx_ar (pc' := 5) (st' := [.int (i32 (0)), .int (i32 (0)), .int (i32 (30)), .ref 66]) rfl rfl rfl rfl ?_
  refine jx_ar (pc' := 6) (st' := [.int (i32 (0)), .int (i32 (0)), .int (i32 (0)), .int (i32 (30)), .ref 66]) rfl rfl rfl rfl ?_
  refine jx_ar (pc' := 7) (st' := [.int (i32 (0)), .int (i32 (0)), .int (i32 (0)), .int (i32 (0)), .int (i32 (30)), .ref 66]) rfl rfl rfl rfl ?_
  refine jx_vr (pc' := 10) (as := [.int (i32 (30)), .int (i32 (0)), .int (i32 (0)), .int (i32 (0)), .int (i32 (0))]) (st := []) rfl rfl rfl rfl ⟨rfl, rfl, Nat.le_of_ble_eq_true rfl⟩ rfl rfl (c_node_o (dd := d) (hd := by omega) (hW := hW) (kind := 30) (a := 0) (b := 0) (c := 0) (e := 0) (nd := nd) (e_nd := show G 31 = nd from (e_nd)) (ec := ec) (e_ec := show ecn A (G 31) = ec from e_ec)  (h_kind := ⟨(by decide), (by decide)⟩) (h_a := ⟨(by decide), (by decide)⟩) (h_b := ⟨(by decide), (by decide)⟩) (h_c := ⟨(by decide), (by decide)⟩) (h_e := ⟨(by decide), (by decide)⟩)  (p_0 := by omega) (p_1 := by omega) (p_2 := by omega)) (fun o V' hq => ?_)
  obtain ⟨G378, A379, nd2_380, ec2_381, rfl, rfl, hW382, hF383, hQ384, e385, e386, p387, p388, p389, -⟩ := hq
  have hF391 := Fr_tr hF0 hF383 (Fr_sub (by decide)) (Fr_sub (by decide))
  have hP392 := Pf_tr hP0 hQ384 (by omega)
  have hS393 := Fx_f hS0 hF383 (by decide)
  have hV394 := Fx_f hV0 hF383 (by decide)
  have bnd2_380 : (0 : Int) ≤ nd2_380 ∧ nd2_380 ≤ 6999 := e385 ▸ hW382.1 31
  refine .inr ⟨_, rfl, ?_⟩
  refine jx_ld (pc' := 11) (l' := jSto1 [(0, .ref 66), (1, .int (i32 (lv)))] 2 (.int (i32 (nd)))) (st' := []) rfl rfl ?_
  obtain ⟨L395, eL395⟩ : ∃ q, q = jSto1 [(0, .ref 66), (1, .int (i32 (lv)))] 2 (.int (i32 (nd))) := ⟨_, rfl⟩
  rw [← eL395]
  have gL395_0 : jGet L395 0 = some (.ref 66) := eL395 ▸ jg_ne (by decide) (rfl : jGet [(0, .ref 66), (1, .int (i32 (lv)))] 0 = some (.ref 66)) rfl
  have gL395_1 : jGet L395 1 = some (.int (i32 (lv))) := eL395 ▸ jg_ne (by decide) (rfl : jGet [(0, .ref 66), (1, .int (i32 (lv)))] 1 = some (.int (i32 (lv)))) rfl
  have gL395_2 : jGet L395 2 = some (.int (i32 (nd))) := eL395 ▸ jg_eq
  refine jx_ld (pc' := 12) (l' := L395) (st' := [.ref 66]) rfl (jl_aloadn gL395_0) ?_
  refine jx_vr (pc' := 15) (as := []) (st := []) rfl rfl rfl rfl ⟨rfl, rfl, Nat.le_of_ble_eq_true rfl⟩ rfl rfl (c_next (dd := d) (hd := by omega) (hW := hW382)  (ln := ln) (e_ln := show G378 9 = ln from ((hF383.1 9 rfl).trans (e_ln))) (le := le) (e_le := show A379 4 (ln).toNat = le from (congrFun (hF383.2 4 rfl) _).trans (e_le)) (at0 := at0) (e_at0 := show G378 10 = at0 from ((hF383.1 10 rfl).trans (e_at0)))    (p_0 := by omega)) (fun o V' hq => ?_)
  obtain ⟨G396, A397, at2_398, tk2_399, rfl, rfl, hW400, hF401, e402, e403, p404, p405, p406, -⟩ := hq
  have hF408 := Fr_tr hF391 hF401 (Fr_sub (by decide)) (Fr_sub (by decide))
  have hP409 := Pf_f hP392 hF401 (by decide)
  have hS410 := Fx_f hS393 hF401 (by decide)
  have hV411 := Fx_f hV394 hF401 (by decide)
  have sf412 : ND A397 (nd) (30) (0) (0) (0) (0) (0) (0) := ND_ag (by omega) (Ag_fr hF401 (by decide)) p389
  have ec413 : ecn A397 (G396 31) = ec2_381 := (ecn_f (hF401.2 15 rfl) (hF401.1 31 rfl)).trans e386
  have bat2_398 : (0 : Int) ≤ at2_398 ∧ at2_398 ≤ 3002 := e402 ▸ hW400.1 10
  have ztk2_399 := tz_b tk2_399
  have btk2_399 : (0 : Int) ≤ tk2_399 ∧ tk2_399 ≤ 5 := e403 ▸ hW400.1 11
  refine .inl ⟨rfl, ?_⟩
  have pz414 : at0 + tz tk2_399 ≤ at2_398 := by omega
  refine jx_ld (pc' := 16) (l' := L395) (st' := [.ref 66]) rfl (jl_aloadn gL395_0) ?_
  refine jx_vr (pc' := 19) (as := []) (st := []) rfl rfl rfl rfl ⟨rfl, rfl, Nat.le_of_ble_eq_true rfl⟩ rfl rfl (c_endLine (dd := d) (hd := by omega) (hW := hW400)  (ln := ln) (e_ln := show G396 9 = ln from ((hF401.1 9 rfl).trans ((hF383.1 9 rfl).trans (e_ln)))) (li := li) (e_li := show G396 3 = li from ((hF401.1 3 rfl).trans ((hF383.1 3 rfl).trans (e_li)))) (fk := fk) (e_fk := show G396 16 = fk from ((hF401.1 16 rfl).trans ((hF383.1 16 rfl).trans (e_fk)))) (tk0 := tk2_399) (e_tk0 := show G396 11 = tk2_399 from (e403))    (p_0 := by omega)) (fun o V' hq => ?_)
  obtain ⟨G415, A416, ln2_417, fk2_418, rfl, rfl, hW419, hF420, e421, e422, q423⟩ := hq
  have hF424 := Fr_tr hF408 hF420 (Fr_sub (by decide)) (Fr_sub (by decide))
  have hP425 := Pf_f hP409 hF420 (by decide)
  have hS426 := Fx_f hS410 hF420 (by decide)
  have hV427 := Fx_f hV411 hF420 (by decide)
  have sf428 : ND A416 (nd) (30) (0) (0) (0) (0) (0) (0) := ND_ag (by omega) (Ag_fr hF420 (by decide)) sf412
  have ec429 : ecn A416 (G415 31) = ec2_381 := (ecn_f (hF420.2 15 rfl) (hF420.1 31 rfl)).trans ec413
  have bln2_417 : (0 : Int) ≤ ln2_417 ∧ ln2_417 ≤ 3000 := e421 ▸ hW419.1 9
  have bfk2_418 : (0 : Int) ≤ fk2_418 ∧ fk2_418 ≤ 6 := e422 ▸ hW419.1 16
  refine .inl ⟨rfl, ?_⟩
  rcases q423 with ⟨a430, a431, a432, a433, a434⟩ | ⟨a435, a436⟩
  · have _q : True := trivial
    have b437 : (0 : Int) ≤ A 3 (ln2_417).toNat ∧ A 3 (ln2_417).toNat ≤ 3000 := hW.2 3 _
    have lt438 : ln2_417 < li → le < A 3 (ln2_417).toNat := fun hh => LT_nx (LT_ext (((hF420.1 3 rfl).trans ((hF401.1 3 rfl).trans (hF383.1 3 rfl)))) (((hF420.2 3 rfl).trans ((hF401.2 3 rfl).trans (hF383.2 3 rfl)))) (((hF420.2 4 rfl).trans ((hF401.2 4 rfl).trans (hF383.2 4 rfl)))) i_LT) (show G415 3 = li from ((hF420.1 3 rfl).trans ((hF401.1 3 rfl).trans ((hF383.1 3 rfl).trans (e_li))))) (show A416 4 (ln).toNat = le from (congrFun ((hF420.2 4 rfl).trans ((hF401.2 4 rfl).trans (hF383.2 4 rfl))) _).trans (e_le)) (show A416 3 (ln2_417).toNat = A 3 (ln2_417).toNat from (congrFun ((hF420.2 3 rfl).trans ((hF401.2 3 rfl).trans (hF383.2 3 rfl))) _)) (show ln2_417 = ln + 1 by omega) (by omega) hh
    refine jx_ar (pc' := 20) (st' := [.int (i32 (0))]) rfl rfl rfl rfl ?_
    refine jx_ld (pc' := 21) (l' := jSto1 L395 3 (.int (i32 (0)))) (st' := []) rfl rfl ?_
    obtain ⟨L439, eL439⟩ : ∃ q, q = jSto1 L395 3 (.int (i32 (0))) := ⟨_, rfl⟩
    rw [← eL439]
    have gL439_0 : jGet L439 0 = some (.ref 66) := eL439 ▸ jg_ne (by decide) gL395_0 rfl
    have gL439_1 : jGet L439 1 = some (.int (i32 (lv))) := eL439 ▸ jg_ne (by decide) gL395_1 rfl
    have gL439_2 : jGet L439 2 = some (.int (i32 (nd))) := eL439 ▸ jg_ne (by decide) gL395_2 rfl
    have gL439_3 : jGet L439 3 = some (.int (i32 (0))) := eL439 ▸ jg_eq
    exact c_readIf_w_at_21 (X := X) (k := k) (hP := hP) (d := d) (Vs := Vs) (sb := sb) (pb := pb) (hvb := hvb) (c0 := c0) (c1 := c1) (G := G) (A := A) (T := T) (lv := lv) (ln := ln) (li := li) (at0 := at0) (fk := fk) (nd := nd) (sy := sy) (na := na) (vi := vi) (le := le) (op0 := op0) (tk0 := tk0) (ec := ec) (hd := hd) (hW := hW) (e_ln := e_ln) (e_li := e_li) (e_at0 := e_at0) (e_fk := e_fk) (e_nd := e_nd) (e_sy := e_sy) (e_na := e_na) (e_vi := e_vi) (e_le := e_le) (e_op0 := e_op0) (e_tk0 := e_tk0) (e_ec := e_ec) (i_LT := i_LT) (i_SV := i_SV) (i_PQ := i_PQ) (h_lv := h_lv) (p_0 := p_0) (p_1 := p_1) (p_2 := p_2) (p_3 := p_3) (p_4 := p_4) (p_5 := p_5) (p_6 := p_6) (p_7 := p_7) (p_8 := p_8) (p_9 := p_9) (p_10 := p_10) _ L439 G415 A416 (nd) (0) (ln2_417) (at2_398) (fk2_418) (nd2_380) (sy) (na) (vi) (A 3 (ln2_417).toNat) (ec2_381) rfl gL439_0 gL439_1 gL439_2 gL439_3 hW419 hF424 hP425 hS426 hV427 ((e421)) (((hF420.1 10 rfl).trans (e402))) ((e422)) (((hF420.1 31 rfl).trans ((hF401.1 31 rfl).trans (e385)))) (((hF420.1 19 rfl).trans ((hF401.1 19 rfl).trans ((hF383.1 19 rfl).trans (e_sy))))) (((hF420.1 28 rfl).trans ((hF401.1 28 rfl).trans ((hF383.1 28 rfl).trans (e_na))))) (((hF420.1 29 rfl).trans ((hF401.1 29 rfl).trans ((hF383.1 29 rfl).trans (e_vi))))) ((congrFun ((hF420.2 3 rfl).trans ((hF401.2 3 rfl).trans (hF383.2 3 rfl))) _)) (ec429) (by omega) (by omega) (by omega) (by omega) (by omega) (by omega) (by omega) (by omega) (by omega) (by omega) (by omega) (by omega) (by omega) (by omega) (by omega) (by omega) ((ND_sf sf428)) ((CI_nil (ND_f0 sf428) (by omega) (by omega))) (by omega)
  · have _q : True := trivial
    refine jx_ar (pc' := 20) (st' := [.int (i32 (0))]) rfl rfl rfl rfl ?_
    refine jx_ld (pc' := 21) (l' := jSto1 L395 3 (.int (i32 (0)))) (st' := []) rfl rfl ?_
    obtain ⟨L440, eL440⟩ : ∃ q, q = jSto1 L395 3 (.int (i32 (0))) := ⟨_, rfl⟩
    rw [← eL440]
    have gL440_0 : jGet L440 0 = some (.ref 66) := eL440 ▸ jg_ne (by decide) gL395_0 rfl
    have gL440_1 : jGet L440 1 = some (.int (i32 (lv))) := eL440 ▸ jg_ne (by decide) gL395_1 rfl
    have gL440_2 : jGet L440 2 = some (.int (i32 (nd))) := eL440 ▸ jg_ne (by decide) gL395_2 rfl
    have gL440_3 : jGet L440 3 = some (.int (i32 (0))) := eL440 ▸ jg_eq
    refine jx_ld (pc' := 22) (l' := L440) (st' := [.ref 66]) rfl (jl_aloadn gL440_0) ?_
    refine jx_ld (pc' := 23) (l' := L440) (st' := [.int (i32 (lv)), .ref 66]) rfl (jl_iloadn gL440_1) ?_
    have b441 : (-1 : Int) ≤ A 5 (ln2_417).toNat ∧ A 5 (ln2_417).toNat ≤ 15 := hW.2 5 _
    refine jx_vr (pc' := 26) (as := [.int (i32 (lv))]) (st := []) rfl rfl rfl rfl ⟨rfl, rfl, Nat.le_of_ble_eq_true rfl⟩ rfl rfl (c_isBelow (dd := d) (hd := by omega) (hW := hW419) (lv := lv) (ln := ln2_417) (e_ln := show G415 9 = ln2_417 from (e421)) (li := li) (e_li := show G415 3 = li from ((hF420.1 3 rfl).trans ((hF401.1 3 rfl).trans ((hF383.1 3 rfl).trans (e_li))))) (fk := fk2_418) (e_fk := show G415 16 = fk2_418 from (e422)) (ll := A 5 (ln2_417).toNat) (e_ll := show A416 5 (ln2_417).toNat = A 5 (ln2_417).toNat from (congrFun ((hF420.2 5 rfl).trans ((hF401.2 5 rfl).trans (hF383.2 5 rfl))) _))  (h_lv := ⟨(Int.le_trans (by decide : (-2147483648 : Int) ≤ -2147483648) h_lv.1), (Int.le_trans h_lv.2 (by decide : (2147483647 : Int) ≤ 2147483647))⟩)  (p_0 := by omega)) (fun o V' hq => ?_)
    obtain ⟨G442, A443, r444, fk2_445, rfl, rfl, hW446, hF447, b448, e449, q450⟩ := hq
    have hF451 := Fr_tr hF424 hF447 (Fr_sub (by decide)) (Fr_sub (by decide))
    have hP452 := Pf_f hP425 hF447 (by decide)
    have hS453 := Fx_f hS426 hF447 (by decide)
    have hV454 := Fx_f hV427 hF447 (by decide)
    have sf455 : ND A443 (nd) (30) (0) (0) (0) (0) (0) (0) := ND_ag (by omega) (Ag_fr hF447 (by decide)) sf428
    have ec456 : ecn A443 (G442 31) = ec2_381 := (ecn_f (hF447.2 15 rfl) (hF447.1 31 rfl)).trans ec429
    have bfk2_445 : (0 : Int) ≤ fk2_445 ∧ fk2_445 ≤ 6 := e449 ▸ hW446.1 16
    refine .inr ⟨_, rfl, ?_⟩
    rcases q450 with ⟨rfl, a457, a458, a459, a460⟩ | ⟨rfl, a461⟩ | ⟨rfl, a462, a463, a464⟩
    · have _q : True := trivial
      exfalso
      omega
    · have _q : True := trivial
      refine jx_if_eq (pc' := 29) (tg := 112) rfl rfl rfl (by decide) (by decide) (fun h465 => ?_) (fun h465 => ?_)
      · have _q := h465
        refine jx_ld (pc' := 113) (l' := L440) (st' := [.ref 66]) rfl (jl_aloadn gL440_0) ?_
        refine jx_vr (pc' := 116) (as := []) (st := []) rfl rfl rfl rfl ⟨rfl, rfl, Nat.le_of_ble_eq_true rfl⟩ rfl rfl (c_bad (dd := d) (hd := by omega) (hW := hW446)  (fk := fk2_445) (e_fk := show G442 16 = fk2_445 from (e449))    ) (fun o V' hq => ?_)
        obtain ⟨r466, rfl, rfl, b467, q468⟩ := hq
        refine .inr ⟨_, rfl, ?_⟩
        rcases q468 with ⟨rfl, a469⟩ | ⟨rfl, a470⟩
        · have _q : True := trivial
          refine jx_if_ne (pc' := 119) (tg := 131) rfl rfl rfl (by decide) (by decide) (fun h471 => ?_) (fun h471 => ?_)
          · have _q := h471
            refine jx_ld (pc' := 132) (l' := L440) (st' := [.int (i32 (nd))]) rfl (jl_iloadn gL440_2) ?_
            refine jx_rt (v := some (.int (i32 (nd)))) rfl rfl rfl rfl rfl rfl ?_
            exact ⟨_, _, _, ln2_417, at2_398, fk2_445, nd2_380, sy, na, vi, A 3 (ln2_417).toNat, ec2_381, rfl, rfl, hW446, hF451, hP452, hS453, hV454, by omega, ((hF447.1 9 rfl).trans (e421)), ((hF447.1 10 rfl).trans ((hF420.1 10 rfl).trans (e402))), (e449), ((hF447.1 31 rfl).trans ((hF420.1 31 rfl).trans ((hF401.1 31 rfl).trans (e385)))), ((hF447.1 19 rfl).trans ((hF420.1 19 rfl).trans ((hF401.1 19 rfl).trans ((hF383.1 19 rfl).trans (e_sy))))), ((hF447.1 28 rfl).trans ((hF420.1 28 rfl).trans ((hF401.1 28 rfl).trans ((hF383.1 28 rfl).trans (e_na))))), ((hF447.1 29 rfl).trans ((hF420.1 29 rfl).trans ((hF401.1 29 rfl).trans ((hF383.1 29 rfl).trans (e_vi))))), (congrFun ((hF447.2 3 rfl).trans ((hF420.2 3 rfl).trans ((hF401.2 3 rfl).trans (hF383.2 3 rfl)))) _), ec456, by omega, by omega, by omega, by omega, by omega, by omega, by omega, by omega, by omega, by omega, by first | exact Or.inl (⟨by omega, by omega⟩)⟩
          · have _q := h471
            exact absurd h471 (by omega)
        · have _q : True := trivial
          exfalso
          omega
      · have _q := h465
        exact absurd h465 (by omega)
    · have _q : True := trivial
      exfalso
      omega
