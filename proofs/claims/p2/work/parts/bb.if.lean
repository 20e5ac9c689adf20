set_option maxRecDepth 20000 in
set_option maxHeartbeats 4000000 in
theorem c_readIf_w_at_21 {X : jX} {k : Nat} (hP : RPw X k) {d : Nat} {Vs : Nat → Prop} {sb pb : Int} (hvb : VB Vs sb) {c0 c1 : jC} {G : Nat → Int} {A : Nat → Nat → Int} {T : jH} {lv : Int} {ln li at0 fk nd sy na vi le op0 tk0 ec : Int} (hd : 8 * k + 82 ≤ d + 1) (hW : Wk G A) (e_ln : G 9 = ln) (e_li : G 3 = li) (e_at0 : G 10 = at0) (e_fk : G 16 = fk) (e_nd : G 31 = nd) (e_sy : G 19 = sy) (e_na : G 28 = na) (e_vi : G 29 = vi) (e_le : A 4 (ln).toNat = le) (e_op0 : G 15 = op0) (e_tk0 : G 11 = tk0) (e_ec : ecn A (G 31) = ec) (i_LT : LT G A) (i_SV : SV Vs sb G A) (i_PQ : PQ Vs sb pb G A) (h_lv : (-2147483648 : Int) ≤ lv ∧ lv ≤ 2147483647) (p_0 : 0 ≤ lv ∧ lv ≤ 15) (p_1 : 18 - lv ≤ ((k + 1 : Nat) : Int)) (p_2 : fk = 0) (p_3 : ln < li) (p_4 : at0 ≤ le) (p_5 : op0 = 0) (p_6 : nd ≤ 2 * at0 - tz tk0 + 30) (p_7 : sy ≤ na + 2) (p_8 : vi ≤ sy) (p_9 : sb = sy) (p_10 : 1 ≤ tk0) : ∀ (m : Nat) (L : jL) (Gx : Nat → Int) (Ax : Nat → Nat → Int) (n last ln1 at1 fk1 nd1 sy1 na1 vi1 lf1 ec1 : Int), (li - ln1).toNat = m → jGet L 0 = some (.ref 66) → jGet L 1 = some (.int (i32 (lv))) → jGet L 2 = some (.int (i32 n)) → jGet L 3 = some (.int (i32 last)) → Wk Gx Ax → Fr [9, 10, 11, 12, 13, 14, 15, 16, 17, 18, 19, 28, 29, 31] [6, 7, 8, 9, 10, 11, 12, 14, 15, 16, 17, 18, 19, 20, 21, 22, 23, 24, 28] G A Gx Ax → Pf nd A Ax → Fx sr (sy) A Ax → Fx [14] (vi) A Ax → Gx 9 = ln1 → Gx 10 = at1 → Gx 16 = fk1 → Gx 31 = nd1 → Gx 19 = sy1 → Gx 28 = na1 → Gx 29 = vi1 → Ax 3 (ln1).toNat = lf1 → ecn Ax (Gx 31) = ec1 → ((-2147483648 : Int) ≤ n ∧ n ≤ 2147483647) → ((-2147483648 : Int) ≤ last ∧ last ≤ 2147483647) → (fk1 = 0) → (at0 ≤ at1) → (nd ≤ n ∧ n ≤ 6998 ∧ n < nd1) → (sy ≤ sy1) → (sy1 ≤ na1 + 2) → (vi1 = vi) → (ln < ln1) → (ln1 ≤ li) → (nd1 - nd ≤ 2 * at1 - (2 * at0 - tz tk0)) → (at1 < lf1 ∨ li ≤ ln1) → (n = nd) → (0 ≤ last ∧ last ≤ 6998) → (last = 0 ∨ n < last) → (last < nd1) → (ND Ax (n) (30) (0) (0) (0) (0) (Ax 21 (n).toNat) (0)) → (CI 1 Ax (sy1) pb (k) (Vs) (n) (last) (n + 1) (nd1) (sy) (sy1)) → (nd + 5 * ec ≤ n ∧ n ≤ 6998 ∧ n < nd1) → (nd1 - nd + 5 * (ec1 - ec) ≤ 2 * at1 - (2 * at0 - tz tk0)) → wj X d jm301 (21, L, [], rV c0 c1 Gx Ax T) (fun o V' => ∃ (G' : Nat → Int) (A' : Nat → Nat → Int) (r : Int) (ln2 : Int) (at2 : Int) (fk2 : Int) (nd2 : Int) (sy2 : Int) (na2 : Int) (vi2 : Int) (lf2 : Int) (ec2 : Int), V' = rV c0 c1 G' A' T ∧ o = .inl (some (.int (i32 r))) ∧ Wk G' A' ∧ Fr [9, 10, 11, 12, 13, 14, 15, 16, 17, 18, 19, 28, 29, 31] [6, 7, 8, 9, 10, 11, 12, 14, 15, 16, 17, 18, 19, 20, 21, 22, 23, 24, 28] G A G' A' ∧ Pf nd A A' ∧ Fx sr (sy) A A' ∧ Fx [14] (vi) A A' ∧ ((-2147483648 : Int) ≤ r ∧ r ≤ 2147483647) ∧ G' 9 = ln2 ∧ G' 10 = at2 ∧ G' 16 = fk2 ∧ G' 31 = nd2 ∧ G' 19 = sy2 ∧ G' 28 = na2 ∧ G' 29 = vi2 ∧ A' 3 (ln2).toNat = lf2 ∧ ecn A' (G' 31) = ec2 ∧ (at0 ≤ at2) ∧ (nd ≤ nd2) ∧ (sy ≤ sy2) ∧ (sy2 ≤ na2 + 2) ∧ (vi ≤ vi2) ∧ (vi2 ≤ vi + 1) ∧ (0 ≤ r) ∧ (r ≤ 6999) ∧ (ln ≤ ln2) ∧ (ln2 ≤ li) ∧ (((1 ≤ fk2) ∧ (nd2 - nd ≤ 2 * at2 - (2 * at0 - tz tk0) + 14)) ∨ ((fk2 = 0) ∧ (vi2 = vi) ∧ (ln < ln2) ∧ (nd2 - nd ≤ 2 * at2 - (2 * at0 - tz tk0)) ∧ (at2 < lf2 ∨ li ≤ ln2) ∧ (nd ≤ r) ∧ (r < nd2) ∧ (wSt A' (sy2) pb (wP A' (sy2) pb (k)) (Vs) (r) (nd) (nd2) (sy) (sy2)) ∧ (NX A' (r)) ∧ (nd2 - nd + 5 * (ec2 - ec) ≤ 2 * at2 - (2 * at0 - tz tk0)) ∧ (nd + 5 * ec ≤ r)))) := by
  have hF0 : Fr [9, 10, 11, 12, 13, 14, 15, 16, 17, 18, 19, 28, 29, 31] [6, 7, 8, 9, 10, 11, 12, 14, 15, 16, 17, 18, 19, 20, 21, 22, 23, 24, 28] G A G A := Fr_rf
  have hP0 : Pf nd A A := Pf_rf
  have hS0 : Fx sr (sy) A A := Fx_rf
  have hV0 : Fx [14] (vi) A A := Fx_rf
  have b_ln : (0 : Int) ≤ ln ∧ ln ≤ 3000 := e_ln ▸ hW.1 9
  have b_li : (0 : Int) ≤ li ∧ li ≤ 3000 := e_li ▸ hW.1 3
  have b_at0 : (0 : Int) ≤ at0 ∧ at0 ≤ 3002 := e_at0 ▸ hW.1 10
  have b_fk : (0 : Int) ≤ fk ∧ fk ≤ 6 := e_fk ▸ hW.1 16
  have b_nd : (0 : Int) ≤ nd ∧ nd ≤ 6999 := e_nd ▸ hW.1 31
  have b_sy : (0 : Int) ≤ sy ∧ sy ≤ 202 := e_sy ▸ hW.1 19
  have b_na : (0 : Int) ≤ na ∧ na ≤ 200 := e_na ▸ hW.1 28
  have b_vi : (0 : Int) ≤ vi ∧ vi ≤ 202 := e_vi ▸ hW.1 29
  have b_le : (0 : Int) ≤ le ∧ le ≤ 3000 := e_le ▸ hW.2 4 _
  have b_op0 : (-2147483648 : Int) ≤ op0 ∧ op0 ≤ 2147483647 := e_op0 ▸ hW.1 15
  have z_tk0 := tz_f tk0
  have b_tk0 : (0 : Int) ≤ tk0 ∧ tk0 ≤ 5 := e_tk0 ▸ hW.1 11
  intro m
  induction m using Nat.strongRecOn with
  | ind m ih21 =>
    intro L Gx Ax n last ln1 at1 fk1 nd1 sy1 na1 vi1 lf1 ec1 hm gL_0 gL_1 gL_2 gL_3 hWx hFx hPx hSx hVx ex_ln1 ex_at1 ex_fk1 ex_nd1 ex_sy1 ex_na1 ex_vi1 ex_lf1 ex_ec1 rx_n rx_last iv_0 iv_1 iv_2 iv_3 iv_4 iv_5 iv_6 iv_7 iv_8 iv_9 iv_10 iv_11 iv_12 iv_13 iv_14 iv_15 iv_16 iv_17
    have b_ln1 : (0 : Int) ≤ ln1 ∧ ln1 ≤ 3000 := ex_ln1 ▸ hWx.1 9
    have b_at1 : (0 : Int) ≤ at1 ∧ at1 ≤ 3002 := ex_at1 ▸ hWx.1 10
    have b_fk1 : (0 : Int) ≤ fk1 ∧ fk1 ≤ 6 := ex_fk1 ▸ hWx.1 16
    have b_nd1 : (0 : Int) ≤ nd1 ∧ nd1 ≤ 6999 := ex_nd1 ▸ hWx.1 31
    have b_sy1 : (0 : Int) ≤ sy1 ∧ sy1 ≤ 202 := ex_sy1 ▸ hWx.1 19
    have b_na1 : (0 : Int) ≤ na1 ∧ na1 ≤ 200 := ex_na1 ▸ hWx.1 28
    have b_vi1 : (0 : Int) ≤ vi1 ∧ vi1 ≤ 202 := ex_vi1 ▸ hWx.1 29
    refine jx_ld (pc' := 22) (l' := L) (st' := [.ref 66]) rfl (jl_aloadn gL_0) ?_
    refine jx_ld (pc' := 23) (l' := L) (st' := [.int (i32 (lv)), .ref 66]) rfl (jl_iloadn gL_1) ?_
    have b1 : (-1 : Int) ≤ A 5 (ln1).toNat ∧ A 5 (ln1).toNat ≤ 15 := hW.2 5 _
    refine jx_vr (pc' := 26) (as := [.int (i32 (lv))]) (st := []) rfl rfl rfl rfl ⟨rfl, rfl, Nat.le_of_ble_eq_true rfl⟩ rfl rfl (c_isBelow (dd := d) (hd := by omega) (hW := hWx) (lv := lv) (ln := ln1) (e_ln := show Gx 9 = ln1 from (ex_ln1)) (li := li) (e_li := show Gx 3 = li from ((hFx.1 3 rfl).trans (e_li))) (fk := fk1) (e_fk := show Gx 16 = fk1 from (ex_fk1)) (ll := A 5 (ln1).toNat) (e_ll := show Ax 5 (ln1).toNat = A 5 (ln1).toNat from (congrFun (hFx.2 5 rfl) _))  (h_lv := ⟨(Int.le_trans (by decide : (-2147483648 : Int) ≤ -2147483648) h_lv.1), (Int.le_trans h_lv.2 (by decide : (2147483647 : Int) ≤ 2147483647))⟩)  (p_0 := by omega)) (fun o V' hq => ?_)
    obtain ⟨G2, A3, r4, fk2_5, rfl, rfl, hW6, hF7, b8, e9, q10⟩ := hq
    have hF11 := Fr_tr hFx hF7 (Fr_sub (by decide)) (Fr_sub (by decide))
    have hP12 := Pf_f hPx hF7 (by decide)
    have hS13 := Fx_f hSx hF7 (by decide)
    have hV14 := Fx_f hVx hF7 (by decide)
    have sf15 : ND A3 (n) (30) (0) (0) (0) (0) (Ax 21 (n).toNat) (0) := ND_ag (by omega) (Ag_fr hF7 (by decide)) iv_14
    have sf16 : CI 1 A3 (sy1) pb (k) (Vs) (n) (last) (n + 1) (nd1) (sy) (sy1) := CI_ag (by omega) (by omega) (Sg_fr hF7 (by decide)) (Qg_fr hF7 (by decide)) (Ag_fr hF7 (by decide)) (congrFun (hF7.2 21 rfl) _) iv_15
    have ec17 : ecn A3 (G2 31) = ec1 := (ecn_f (hF7.2 15 rfl) (hF7.1 31 rfl)).trans ex_ec1
    have bfk2_5 : (0 : Int) ≤ fk2_5 ∧ fk2_5 ≤ 6 := e9 ▸ hW6.1 16
    refine .inr ⟨_, rfl, ?_⟩
    rcases q10 with ⟨rfl, a18, a19, a20, a21⟩ | ⟨rfl, a22⟩ | ⟨rfl, a23, a24, a25⟩
    · have _q : True := trivial
      have b26 : (0 : Int) ≤ A 4 (ln1).toNat ∧ A 4 (ln1).toNat ≤ 3000 := hW.2 4 _
      have lt27 : lf1 < A 4 (ln1).toNat := LT_at (LT_ext (((hF7.1 3 rfl).trans (hFx.1 3 rfl))) (((hF7.2 3 rfl).trans (hFx.2 3 rfl))) (((hF7.2 4 rfl).trans (hFx.2 4 rfl))) i_LT) (show G2 3 = li from ((hF7.1 3 rfl).trans ((hFx.1 3 rfl).trans (e_li)))) (show A3 3 (ln1).toNat = lf1 from (congrFun (hF7.2 3 rfl) _).trans (ex_lf1)) (show A3 4 (ln1).toNat = A 4 (ln1).toNat from (congrFun ((hF7.2 4 rfl).trans (hFx.2 4 rfl)) _)) (by omega) (by omega)
      refine jx_if_eq (pc' := 29) (tg := 112) rfl rfl rfl (by decide) (by decide) (fun h28 => ?_) (fun h28 => ?_)
      · have _q := h28
        exact absurd h28 (by omega)
      · have _q := h28
        refine jx_ld (pc' := 30) (l' := L) (st' := [.ref 66]) rfl (jl_aloadn gL_0) ?_
        refine jx_vr (pc' := 33) (as := []) (st := []) rfl rfl rfl rfl ⟨rfl, rfl, Nat.le_of_ble_eq_true rfl⟩ rfl rfl (c_openLine (dd := d) (hd := by omega) (hW := hW6)  (ln := ln1) (e_ln := show G2 9 = ln1 from ((hF7.1 9 rfl).trans (ex_ln1))) (le := A 4 (ln1).toNat) (e_le := show A3 4 (ln1).toNat = A 4 (ln1).toNat from (congrFun ((hF7.2 4 rfl).trans (hFx.2 4 rfl)) _)) (lf := lf1) (e_lf := show A3 3 (ln1).toNat = lf1 from (congrFun (hF7.2 3 rfl) _).trans (ex_lf1))    (p_0 := by omega)) (fun o V' hq => ?_)
        obtain ⟨G29, A30, at2_31, tk2_32, op2_33, rfl, rfl, hW34, hF35, e36, e37, e38, p39, p40, p41, p42, -⟩ := hq
        have hF44 := Fr_tr hF11 hF35 (Fr_sub (by decide)) (Fr_sub (by decide))
        have hP45 := Pf_f hP12 hF35 (by decide)
        have hS46 := Fx_f hS13 hF35 (by decide)
        have hV47 := Fx_f hV14 hF35 (by decide)
        have sf48 : ND A30 (n) (30) (0) (0) (0) (0) (Ax 21 (n).toNat) (0) := ND_ag (by omega) (Ag_fr hF35 (by decide)) sf15
        have sf49 : CI 1 A30 (sy1) pb (k) (Vs) (n) (last) (n + 1) (nd1) (sy) (sy1) := CI_ag (by omega) (by omega) (Sg_fr hF35 (by decide)) (Qg_fr hF35 (by decide)) (Ag_fr hF35 (by decide)) (congrFun (hF35.2 21 rfl) _) sf16
        have ec50 : ecn A30 (G29 31) = ec1 := (ecn_f (hF35.2 15 rfl) (hF35.1 31 rfl)).trans ec17
        have bat2_31 : (0 : Int) ≤ at2_31 ∧ at2_31 ≤ 3002 := e36 ▸ hW34.1 10
        have ztk2_32 := tz_b tk2_32
        have btk2_32 : (0 : Int) ≤ tk2_32 ∧ tk2_32 ≤ 5 := e37 ▸ hW34.1 11
        have bop2_33 : (-2147483648 : Int) ≤ op2_33 ∧ op2_33 ≤ 2147483647 := e38 ▸ hW34.1 15
        refine .inl ⟨rfl, ?_⟩
        refine jx_ld (pc' := 34) (l' := L) (st' := [.ref 66]) rfl (jl_aloadn gL_0) ?_
        refine jx_ar (pc' := 36) (st' := [.int (i32 (34)), .ref 66]) rfl rfl rfl rfl ?_
        refine jx_ar (pc' := 37) (st' := [.int (i32 (0)), .int (i32 (34)), .ref 66]) rfl rfl rfl rfl ?_
        refine jx_ar (pc' := 38) (st' := [.int (i32 (0)), .int (i32 (0)), .int (i32 (34)), .ref 66]) rfl rfl rfl rfl ?_
        refine jx_ar (pc' := 39) (st' := [.int (i32 (0)), .int (i32 (0)), .int (i32 (0)), .int (i32 (34)), .ref 66]) rfl rfl rfl rfl ?_
        refine jx_ar (pc' := 40) (st' := [.int (i32 (0)), .int (i32 (0)), .int (i32 (0)), .int (i32 (0)), .int (i32 (34)), .ref 66]) rfl rfl rfl rfl ?_
        refine jx_vr (pc' := 43) (as := [.int (i32 (34)), .int (i32 (0)), .int (i32 (0)), .int (i32 (0)), .int (i32 (0))]) (st := []) rfl rfl rfl rfl ⟨rfl, rfl, Nat.le_of_ble_eq_true rfl⟩ rfl rfl (c_node_o (dd := d) (hd := by omega) (hW := hW34) (kind := 34) (a := 0) (b := 0) (c := 0) (e := 0) (nd := nd1) (e_nd := show G29 31 = nd1 from ((hF35.1 31 rfl).trans ((hF7.1 31 rfl).trans (ex_nd1)))) (ec := ec1) (e_ec := show ecn A30 (G29 31) = ec1 from ec50)  (h_kind := ⟨(by decide), (by decide)⟩) (h_a := ⟨(by decide), (by decide)⟩) (h_b := ⟨(by decide), (by decide)⟩) (h_c := ⟨(by decide), (by decide)⟩) (h_e := ⟨(by decide), (by decide)⟩)  (p_0 := by omega) (p_1 := by omega) (p_2 := by omega)) (fun o V' hq => ?_)
        obtain ⟨G51, A52, nd2_53, ec2_54, rfl, rfl, hW55, hF56, hQ57, e58, e59, p60, p61, p62, -⟩ := hq
        have hF64 := Fr_tr hF44 hF56 (Fr_sub (by decide)) (Fr_sub (by decide))
        have hP65 := Pf_tr hP45 hQ57 (by omega)
        have hS66 := Fx_f hS46 hF56 (by decide)
        have hV67 := Fx_f hV47 hF56 (by decide)
        have sf68 : ND A52 (n) (30) (0) (0) (0) (0) (Ax 21 (n).toNat) (0) := ND_ag (by omega) (Ag_pf hQ57 (by omega)) sf48
        have sf69 : CI 1 A52 (sy1) pb (k) (Vs) (n) (last) (n + 1) (nd1) (sy) (sy1) := CI_ag (by omega) (by omega) (Sg_fr hF56 (by decide)) (Qg_fr hF56 (by decide)) (Ag_pf hQ57 (by omega)) (hQ57 21 _ rfl (by omega)) sf49
        have bnd2_53 : (0 : Int) ≤ nd2_53 ∧ nd2_53 ≤ 6999 := e58 ▸ hW55.1 31
        refine .inr ⟨_, rfl, ?_⟩
        refine jx_ld (pc' := 45) (l' := jSto1 L 4 (.int (i32 (nd1)))) (st' := []) rfl rfl ?_
        obtain ⟨L70, eL70⟩ : ∃ q, q = jSto1 L 4 (.int (i32 (nd1))) := ⟨_, rfl⟩
        rw [← eL70]
        have gL70_0 : jGet L70 0 = some (.ref 66) := eL70 ▸ jg_ne (by decide) gL_0 rfl
        have gL70_1 : jGet L70 1 = some (.int (i32 (lv))) := eL70 ▸ jg_ne (by decide) gL_1 rfl
        have gL70_2 : jGet L70 2 = some (.int (i32 (n))) := eL70 ▸ jg_ne (by decide) gL_2 rfl
        have gL70_3 : jGet L70 3 = some (.int (i32 (last))) := eL70 ▸ jg_ne (by decide) gL_3 rfl
        have gL70_4 : jGet L70 4 = some (.int (i32 (nd1))) := eL70 ▸ jg_eq
        refine jx_ld (pc' := 46) (l' := L70) (st' := [.ref 66]) rfl (jl_aloadn gL70_0) ?_
        refine jr_get (pc' := 49) (i := 34) (v := .ref 84) rfl rfl (by decide) rfl rfl ?_
        refine jx_ld (pc' := 51) (l' := L70) (st' := [.int (i32 (nd1)), .ref 84]) rfl (jl_iload gL70_4) ?_
        refine jx_ld (pc' := 52) (l' := L70) (st' := [.ref 66, .int (i32 (nd1)), .ref 84]) rfl (jl_aloadn gL70_0) ?_
        refine jx_vr (pc' := 55) (as := []) (st := [.int (i32 (nd1)), .ref 84]) rfl rfl rfl rfl ⟨rfl, rfl, Nat.le_of_ble_eq_true rfl⟩ rfl rfl (RE_all X 9 (dd := d) (hd := by omega) (hW := hW55)  (ln := ln1) (e_ln := show G51 9 = ln1 from ((hF56.1 9 rfl).trans ((hF35.1 9 rfl).trans ((hF7.1 9 rfl).trans (ex_ln1))))) (le := A 4 (ln1).toNat) (e_le := show A52 4 (ln1).toNat = A 4 (ln1).toNat from (congrFun ((hF56.2 4 rfl).trans ((hF35.2 4 rfl).trans ((hF7.2 4 rfl).trans (hFx.2 4 rfl)))) _)) (at0 := at2_31) (e_at0 := show G51 10 = at2_31 from ((hF56.1 10 rfl).trans (e36))) (fk := fk2_5) (e_fk := show G51 16 = fk2_5 from ((hF56.1 16 rfl).trans ((hF35.1 16 rfl).trans (e9)))) (op0 := op2_33) (e_op0 := show G51 15 = op2_33 from ((hF56.1 15 rfl).trans (e38))) (nd := nd2_53) (e_nd := show G51 31 = nd2_53 from (e58)) (tk0 := tk2_32) (e_tk0 := show G51 11 = tk2_32 from ((hF56.1 11 rfl).trans (e37))) (ec := ec2_54) (e_ec := show ecn A52 (G51 31) = ec2_54 from e59) (i_SV := (SV_fx i_SV e_vi (show G51 29 = vi1 from ((hF56.1 29 rfl).trans ((hF35.1 29 rfl).trans ((hF7.1 29 rfl).trans (ex_vi1))))) (by omega) hV67))   (p_0 := by omega) (p_1 := by omega) (p_2 := by omega) (p_3 := by omega) (p_4 := by omega) (p_5 := by omega)) (fun o V' hq => ?_)
        obtain ⟨G71, A72, r73, at2_74, fk2_75, op2_76, nd2_77, tk2_78, ec2_79, rfl, rfl, hW80, hF81, hQ82, b83, e84, e85, e86, e87, e88, e89, p90, p91, p92, p93, p94, p95, q96⟩ := hq
        have hF97 := Fr_tr hF64 hF81 (Fr_sub (by decide)) (Fr_sub (by decide))
        have hP98 := Pf_tr hP65 hQ82 (by omega)
        have hS99 := Fx_f hS66 hF81 (by decide)
        have hV100 := Fx_f hV67 hF81 (by decide)
        have sf101 : ND A72 (n) (30) (0) (0) (0) (0) (Ax 21 (n).toNat) (0) := ND_ag (by omega) (Ag_pf hQ82 (by omega)) sf68
        have sf102 : CI 1 A72 (sy1) pb (k) (Vs) (n) (last) (n + 1) (nd1) (sy) (sy1) := CI_ag (by omega) (by omega) (Sg_fr hF81 (by decide)) (Qg_fr hF81 (by decide)) (Ag_pf hQ82 (by omega)) (hQ82 21 _ rfl (by omega)) sf69
        have sf103 : ND A72 (nd1) (34) (0) (0) (0) (0) (0) (0) := ND_ag (by omega) (Ag_pf hQ82 (by omega)) p62
        have bat2_74 : (0 : Int) ≤ at2_74 ∧ at2_74 ≤ 3002 := e84 ▸ hW80.1 10
        have bfk2_75 : (0 : Int) ≤ fk2_75 ∧ fk2_75 ≤ 6 := e85 ▸ hW80.1 16
        have bop2_76 : (-2147483648 : Int) ≤ op2_76 ∧ op2_76 ≤ 2147483647 := e86 ▸ hW80.1 15
        have bnd2_77 : (0 : Int) ≤ nd2_77 ∧ nd2_77 ≤ 6999 := e87 ▸ hW80.1 31
        have ztk2_78 := tz_b tk2_78
        have btk2_78 : (0 : Int) ≤ tk2_78 ∧ tk2_78 ≤ 5 := e88 ▸ hW80.1 11
        refine .inr ⟨_, rfl, ?_⟩
        rcases q96 with ⟨a104, a105, a106, a107, a108, a109⟩ | ⟨a110, a111, a112⟩ | ⟨a113, a114, a115, a116, a117⟩
        · have _q : True := trivial
          exfalso
          omega
        · have _q : True := trivial
          refine jr_st (pc' := 56) (i := 17) (m := 7000) (z := nd1) (y := r73) rfl (by decide) rfl (by decide) (by omega) (by omega) rfl ?_
          have hW119 : Wk G71 (uA A72 17 (nd1).toNat (r73)) := Wk_a hW80 (show (-2147483648 : Int) ≤ r73 by omega) (show r73 ≤ (2147483647 : Int) by omega)
          have hF120 := Fr_a (z := r73) (k := 17) (n := (nd1).toNat) hF97 (by decide)
          obtain ⟨A118, eA118⟩ : ∃ q, q = uA A72 17 (nd1).toNat (r73) := ⟨_, rfl⟩
          rw [← eA118]
          rw [← eA118] at hW119 hF120
          have q121 : A118 17 (nd1).toNat = r73 := by rw [eA118]; exact uA_eq
          have hP122 : Pf nd A A118 := eA118 ▸ Pf_a hP98 (z := nd1) (by omega) (by omega)
          have hS123 : Fx sr (sy) A A118 := eA118 ▸ Fx_n hS99 rfl
          have hV124 : Fx [14] (vi) A A118 := eA118 ▸ Fx_n hV100 rfl
          have sf125 : ND A118 (n) (30) (0) (0) (0) (0) (Ax 21 (n).toNat) (0) := ND_ag (by omega) (Ag_st eA118 (by omega) (by omega)) sf101
          have sf126 : CI 1 A118 (sy1) pb (k) (Vs) (n) (last) (n + 1) (nd1) (sy) (sy1) := CI_ag (by omega) (by omega) (Sg_ne eA118 rfl) (Qg_ne eA118 rfl) (Ag_st eA118 (by omega) (by omega)) ((congrFun ((congrFun eA118 21).trans (uA_ne (by decide))) _)) sf102
          have sf127 : ND A118 (nd1) (34) (r73) (0) (0) (0) (0) (0) := ND_a eA118 sf103
          have ec128 : ecn A118 (G71 31) = ec2_79 := (ecn_e ((congrFun eA118 15).trans (uA_ne (by decide)))).trans e89
          refine jx_ld (pc' := 57) (l' := L70) (st' := [.ref 66]) rfl (jl_aloadn gL70_0) ?_
          refine jx_vr (pc' := 60) (as := []) (st := []) rfl rfl rfl rfl ⟨rfl, rfl, Nat.le_of_ble_eq_true rfl⟩ rfl rfl (c_endLine (dd := d) (hd := by omega) (hW := hW119)  (ln := ln1) (e_ln := show G71 9 = ln1 from ((hF81.1 9 rfl).trans ((hF56.1 9 rfl).trans ((hF35.1 9 rfl).trans ((hF7.1 9 rfl).trans (ex_ln1)))))) (li := li) (e_li := show G71 3 = li from ((hF81.1 3 rfl).trans ((hF56.1 3 rfl).trans ((hF35.1 3 rfl).trans ((hF7.1 3 rfl).trans ((hFx.1 3 rfl).trans (e_li))))))) (fk := fk2_75) (e_fk := show G71 16 = fk2_75 from (e85)) (tk0 := tk2_78) (e_tk0 := show G71 11 = tk2_78 from (e88))    (p_0 := by omega)) (fun o V' hq => ?_)
          obtain ⟨G129, A130, ln2_131, fk2_132, rfl, rfl, hW133, hF134, e135, e136, q137⟩ := hq
          have hF138 := Fr_tr hF120 hF134 (Fr_sub (by decide)) (Fr_sub (by decide))
          have hP139 := Pf_f hP122 hF134 (by decide)
          have hS140 := Fx_f hS123 hF134 (by decide)
          have hV141 := Fx_f hV124 hF134 (by decide)
          have sf142 : ND A130 (n) (30) (0) (0) (0) (0) (Ax 21 (n).toNat) (0) := ND_ag (by omega) (Ag_fr hF134 (by decide)) sf125
          have sf143 : CI 1 A130 (sy1) pb (k) (Vs) (n) (last) (n + 1) (nd1) (sy) (sy1) := CI_ag (by omega) (by omega) (Sg_fr hF134 (by decide)) (Qg_fr hF134 (by decide)) (Ag_fr hF134 (by decide)) (congrFun (hF134.2 21 rfl) _) sf126
          have sf144 : ND A130 (nd1) (34) (r73) (0) (0) (0) (0) (0) := ND_ag (by omega) (Ag_fr hF134 (by decide)) sf127
          have ec145 : ecn A130 (G129 31) = ec2_79 := (ecn_f (hF134.2 15 rfl) (hF134.1 31 rfl)).trans ec128
          have bln2_131 : (0 : Int) ≤ ln2_131 ∧ ln2_131 ≤ 3000 := e135 ▸ hW133.1 9
          have bfk2_132 : (0 : Int) ≤ fk2_132 ∧ fk2_132 ≤ 6 := e136 ▸ hW133.1 16
          refine .inl ⟨rfl, ?_⟩
          rcases q137 with ⟨a146, a147, a148, a149, a150⟩ | ⟨a151, a152⟩
          · have _q : True := trivial
            exfalso
            omega
          · have _q : True := trivial
            refine jx_ld (pc' := 61) (l' := L70) (st' := [.ref 66]) rfl (jl_aloadn gL70_0) ?_
            refine jx_vr (pc' := 64) (as := []) (st := []) rfl rfl rfl rfl ⟨rfl, rfl, Nat.le_of_ble_eq_true rfl⟩ rfl rfl (c_bad (dd := d) (hd := by omega) (hW := hW133)  (fk := fk2_132) (e_fk := show G129 16 = fk2_132 from (e136))    ) (fun o V' hq => ?_)
            obtain ⟨r153, rfl, rfl, b154, q155⟩ := hq
            refine .inr ⟨_, rfl, ?_⟩
            rcases q155 with ⟨rfl, a156⟩ | ⟨rfl, a157⟩
            · have _q : True := trivial
              refine jx_if_eq (pc' := 67) (tg := 71) rfl rfl rfl (by decide) (by decide) (fun h158 => ?_) (fun h158 => ?_)
              · have _q := h158
                exact absurd h158 (by omega)
              · have _q := h158
                refine jx_ar (pc' := 68) (st' := [.int (i32 (0))]) rfl rfl rfl rfl ?_
                refine jx_go (tg := 78) rfl rfl ?_
                refine jx_ld (pc' := 80) (l' := jSto1 L70 5 (.int (i32 (0)))) (st' := []) rfl rfl ?_
                obtain ⟨L159, eL159⟩ : ∃ q, q = jSto1 L70 5 (.int (i32 (0))) := ⟨_, rfl⟩
                rw [← eL159]
                have gL159_0 : jGet L159 0 = some (.ref 66) := eL159 ▸ jg_ne (by decide) gL70_0 rfl
                have gL159_1 : jGet L159 1 = some (.int (i32 (lv))) := eL159 ▸ jg_ne (by decide) gL70_1 rfl
                have gL159_2 : jGet L159 2 = some (.int (i32 (n))) := eL159 ▸ jg_ne (by decide) gL70_2 rfl
                have gL159_3 : jGet L159 3 = some (.int (i32 (last))) := eL159 ▸ jg_ne (by decide) gL70_3 rfl
                have gL159_4 : jGet L159 4 = some (.int (i32 (nd1))) := eL159 ▸ jg_ne (by decide) gL70_4 rfl
                have gL159_5 : jGet L159 5 = some (.int (i32 (0))) := eL159 ▸ jg_eq
                refine jx_ld (pc' := 81) (l' := L159) (st' := [.ref 66]) rfl (jl_aloadn gL159_0) ?_
                refine jx_vr (pc' := 84) (as := []) (st := []) rfl rfl rfl rfl ⟨rfl, rfl, Nat.le_of_ble_eq_true rfl⟩ rfl rfl (c_bad (dd := d) (hd := by omega) (hW := hW133)  (fk := fk2_132) (e_fk := show G129 16 = fk2_132 from (e136))    ) (fun o V' hq => ?_)
                obtain ⟨r160, rfl, rfl, b161, q162⟩ := hq
                refine .inr ⟨_, rfl, ?_⟩
                rcases q162 with ⟨rfl, a163⟩ | ⟨rfl, a164⟩
                · have _q : True := trivial
                  refine jx_if_eq (pc' := 87) (tg := 89) rfl rfl rfl (by decide) (by decide) (fun h165 => ?_) (fun h165 => ?_)
                  · have _q := h165
                    exact absurd h165 (by omega)
                  · have _q := h165
                    refine jx_ar (pc' := 88) (st' := [.int (i32 (0))]) rfl rfl rfl rfl ?_
                    refine jx_rt (v := some (.int (i32 (0)))) rfl rfl rfl rfl rfl rfl ?_
                    exact ⟨_, _, _, ln2_131, at2_74, fk2_132, nd2_77, sy1, na1, vi1, A 3 (ln2_131).toNat, ec2_79, rfl, rfl, hW133, hF138, hP139, hS140, hV141, by omega, (e135), ((hF134.1 10 rfl).trans (e84)), (e136), ((hF134.1 31 rfl).trans (e87)), ((hF134.1 19 rfl).trans ((hF81.1 19 rfl).trans ((hF56.1 19 rfl).trans ((hF35.1 19 rfl).trans ((hF7.1 19 rfl).trans (ex_sy1)))))), ((hF134.1 28 rfl).trans ((hF81.1 28 rfl).trans ((hF56.1 28 rfl).trans ((hF35.1 28 rfl).trans ((hF7.1 28 rfl).trans (ex_na1)))))), ((hF134.1 29 rfl).trans ((hF81.1 29 rfl).trans ((hF56.1 29 rfl).trans ((hF35.1 29 rfl).trans ((hF7.1 29 rfl).trans (ex_vi1)))))), (congrFun ((hF134.2 3 rfl).trans (((congrFun eA118 3).trans (uA_ne (by decide))).trans ((hF81.2 3 rfl).trans ((hF56.2 3 rfl).trans ((hF35.2 3 rfl).trans ((hF7.2 3 rfl).trans (hFx.2 3 rfl))))))) _), ec145, by omega, by omega, by omega, by omega, by omega, by omega, by omega, by omega, by omega, by omega, by first | exact Or.inl (⟨by omega, by omega⟩)⟩
                · have _q : True := trivial
                  exfalso
                  omega
            · have _q : True := trivial
              exfalso
              omega
        · have _q : True := trivial
          refine jr_st (pc' := 56) (i := 17) (m := 7000) (z := nd1) (y := r73) rfl (by decide) rfl (by decide) (by omega) (by omega) rfl ?_
          have hW167 : Wk G71 (uA A72 17 (nd1).toNat (r73)) := Wk_a hW80 (show (-2147483648 : Int) ≤ r73 by omega) (show r73 ≤ (2147483647 : Int) by omega)
          have hF168 := Fr_a (z := r73) (k := 17) (n := (nd1).toNat) hF97 (by decide)
          obtain ⟨A166, eA166⟩ : ∃ q, q = uA A72 17 (nd1).toNat (r73) := ⟨_, rfl⟩
          rw [← eA166]
          rw [← eA166] at hW167 hF168
          have q169 : A166 17 (nd1).toNat = r73 := by rw [eA166]; exact uA_eq
          have hP170 : Pf nd A A166 := eA166 ▸ Pf_a hP98 (z := nd1) (by omega) (by omega)
          have hS171 : Fx sr (sy) A A166 := eA166 ▸ Fx_n hS99 rfl
          have hV172 : Fx [14] (vi) A A166 := eA166 ▸ Fx_n hV100 rfl
          have sf173 : ND A166 (n) (30) (0) (0) (0) (0) (Ax 21 (n).toNat) (0) := ND_ag (by omega) (Ag_st eA166 (by omega) (by omega)) sf101
          have sf174 : CI 1 A166 (sy1) pb (k) (Vs) (n) (last) (n + 1) (nd1) (sy) (sy1) := CI_ag (by omega) (by omega) (Sg_ne eA166 rfl) (Qg_ne eA166 rfl) (Ag_st eA166 (by omega) (by omega)) ((congrFun ((congrFun eA166 21).trans (uA_ne (by decide))) _)) sf102
          have sf175 : ND A166 (nd1) (34) (r73) (0) (0) (0) (0) (0) := ND_a eA166 sf103
          have sf176 : wE A166 Vs sb (2 * 9 + 2) (r73) (nd2_53) (nd2_77) := wE_ag (by omega) (Sg_ne eA166 rfl) (Ag_st eA166 (by omega) (by omega)) a116
          have ec177 : ecn A166 (G71 31) = ec2_79 := (ecn_e ((congrFun eA166 15).trans (uA_ne (by decide)))).trans e89
          refine jx_ld (pc' := 57) (l' := L70) (st' := [.ref 66]) rfl (jl_aloadn gL70_0) ?_
          refine jx_vr (pc' := 60) (as := []) (st := []) rfl rfl rfl rfl ⟨rfl, rfl, Nat.le_of_ble_eq_true rfl⟩ rfl rfl (c_endLine (dd := d) (hd := by omega) (hW := hW167)  (ln := ln1) (e_ln := show G71 9 = ln1 from ((hF81.1 9 rfl).trans ((hF56.1 9 rfl).trans ((hF35.1 9 rfl).trans ((hF7.1 9 rfl).trans (ex_ln1)))))) (li := li) (e_li := show G71 3 = li from ((hF81.1 3 rfl).trans ((hF56.1 3 rfl).trans ((hF35.1 3 rfl).trans ((hF7.1 3 rfl).trans ((hFx.1 3 rfl).trans (e_li))))))) (fk := fk2_75) (e_fk := show G71 16 = fk2_75 from (e85)) (tk0 := tk2_78) (e_tk0 := show G71 11 = tk2_78 from (e88))    (p_0 := by omega)) (fun o V' hq => ?_)
          obtain ⟨G178, A179, ln2_180, fk2_181, rfl, rfl, hW182, hF183, e184, e185, q186⟩ := hq
          have hF187 := Fr_tr hF168 hF183 (Fr_sub (by decide)) (Fr_sub (by decide))
          have hP188 := Pf_f hP170 hF183 (by decide)
          have hS189 := Fx_f hS171 hF183 (by decide)
          have hV190 := Fx_f hV172 hF183 (by decide)
          have sf191 : ND A179 (n) (30) (0) (0) (0) (0) (Ax 21 (n).toNat) (0) := ND_ag (by omega) (Ag_fr hF183 (by decide)) sf173
          have sf192 : CI 1 A179 (sy1) pb (k) (Vs) (n) (last) (n + 1) (nd1) (sy) (sy1) := CI_ag (by omega) (by omega) (Sg_fr hF183 (by decide)) (Qg_fr hF183 (by decide)) (Ag_fr hF183 (by decide)) (congrFun (hF183.2 21 rfl) _) sf174
          have sf193 : ND A179 (nd1) (34) (r73) (0) (0) (0) (0) (0) := ND_ag (by omega) (Ag_fr hF183 (by decide)) sf175
          have sf194 : wE A179 Vs sb (2 * 9 + 2) (r73) (nd2_53) (nd2_77) := wE_ag (by omega) (Sg_fr hF183 (by decide)) (Ag_fr hF183 (by decide)) sf176
          have ec195 : ecn A179 (G178 31) = ec2_79 := (ecn_f (hF183.2 15 rfl) (hF183.1 31 rfl)).trans ec177
          have bln2_180 : (0 : Int) ≤ ln2_180 ∧ ln2_180 ≤ 3000 := e184 ▸ hW182.1 9
          have bfk2_181 : (0 : Int) ≤ fk2_181 ∧ fk2_181 ≤ 6 := e185 ▸ hW182.1 16
          refine .inl ⟨rfl, ?_⟩
          rcases q186 with ⟨a196, a197, a198, a199, a200⟩ | ⟨a201, a202⟩
          · have _q : True := trivial
            have b203 : (0 : Int) ≤ A 3 (ln2_180).toNat ∧ A 3 (ln2_180).toNat ≤ 3000 := hW.2 3 _
            have lt204 : ln2_180 < li → A 4 (ln1).toNat < A 3 (ln2_180).toNat := fun hh => LT_nx (LT_ext (((hF183.1 3 rfl).trans ((hF81.1 3 rfl).trans ((hF56.1 3 rfl).trans ((hF35.1 3 rfl).trans ((hF7.1 3 rfl).trans (hFx.1 3 rfl))))))) (((hF183.2 3 rfl).trans (((congrFun eA166 3).trans (uA_ne (by decide))).trans ((hF81.2 3 rfl).trans ((hF56.2 3 rfl).trans ((hF35.2 3 rfl).trans ((hF7.2 3 rfl).trans (hFx.2 3 rfl)))))))) (((hF183.2 4 rfl).trans (((congrFun eA166 4).trans (uA_ne (by decide))).trans ((hF81.2 4 rfl).trans ((hF56.2 4 rfl).trans ((hF35.2 4 rfl).trans ((hF7.2 4 rfl).trans (hFx.2 4 rfl)))))))) i_LT) (show G178 3 = li from ((hF183.1 3 rfl).trans ((hF81.1 3 rfl).trans ((hF56.1 3 rfl).trans ((hF35.1 3 rfl).trans ((hF7.1 3 rfl).trans ((hFx.1 3 rfl).trans (e_li)))))))) (show A179 4 (ln1).toNat = A 4 (ln1).toNat from (congrFun ((hF183.2 4 rfl).trans (((congrFun eA166 4).trans (uA_ne (by decide))).trans ((hF81.2 4 rfl).trans ((hF56.2 4 rfl).trans ((hF35.2 4 rfl).trans ((hF7.2 4 rfl).trans (hFx.2 4 rfl))))))) _)) (show A179 3 (ln2_180).toNat = A 3 (ln2_180).toNat from (congrFun ((hF183.2 3 rfl).trans (((congrFun eA166 3).trans (uA_ne (by decide))).trans ((hF81.2 3 rfl).trans ((hF56.2 3 rfl).trans ((hF35.2 3 rfl).trans ((hF7.2 3 rfl).trans (hFx.2 3 rfl))))))) _)) (show ln2_180 = ln1 + 1 by omega) (by omega) hh
            refine jx_ld (pc' := 61) (l' := L70) (st' := [.ref 66]) rfl (jl_aloadn gL70_0) ?_
            refine jx_vr (pc' := 64) (as := []) (st := []) rfl rfl rfl rfl ⟨rfl, rfl, Nat.le_of_ble_eq_true rfl⟩ rfl rfl (c_bad (dd := d) (hd := by omega) (hW := hW182)  (fk := fk2_181) (e_fk := show G178 16 = fk2_181 from (e185))    ) (fun o V' hq => ?_)
            obtain ⟨r205, rfl, rfl, b206, q207⟩ := hq
            refine .inr ⟨_, rfl, ?_⟩
            rcases q207 with ⟨rfl, a208⟩ | ⟨rfl, a209⟩
            · have _q : True := trivial
              exfalso
              omega
            · have _q : True := trivial
              refine jx_if_eq (pc' := 67) (tg := 71) rfl rfl rfl (by decide) (by decide) (fun h210 => ?_) (fun h210 => ?_)
              · have _q := h210
                refine jx_ld (pc' := 72) (l' := L70) (st' := [.ref 66]) rfl (jl_aloadn gL70_0) ?_
                refine jx_ld (pc' := 73) (l' := L70) (st' := [.int (i32 (lv)), .ref 66]) rfl (jl_iloadn gL70_1) ?_
                refine jx_ar (pc' := 74) (st' := [.int (i32 (2)), .int (i32 (lv)), .ref 66]) rfl rfl rfl rfl ?_
                refine jx_add (pc' := 75) rfl rfl ?_
                refine jx_vr (pc' := 78) (as := [.int (i32 ((lv + 2)))]) (st := []) rfl rfl rfl rfl ⟨rfl, rfl, Nat.le_of_ble_eq_true rfl⟩ rfl rfl (hP (dd := d) (hd := by omega) (hW := hW182) (lv := (lv + 2)) (at0 := at2_74) (ln := ln2_180) (e_ln := show G178 9 = ln2_180 from (e184)) (li := li) (e_li := show G178 3 = li from ((hF183.1 3 rfl).trans ((hF81.1 3 rfl).trans ((hF56.1 3 rfl).trans ((hF35.1 3 rfl).trans ((hF7.1 3 rfl).trans ((hFx.1 3 rfl).trans (e_li)))))))) (fk := fk2_181) (e_fk := show G178 16 = fk2_181 from (e185)) (nd := nd2_77) (e_nd := show G178 31 = nd2_77 from ((hF183.1 31 rfl).trans (e87))) (sy := sy1) (e_sy := show G178 19 = sy1 from ((hF183.1 19 rfl).trans ((hF81.1 19 rfl).trans ((hF56.1 19 rfl).trans ((hF35.1 19 rfl).trans ((hF7.1 19 rfl).trans (ex_sy1))))))) (na := na1) (e_na := show G178 28 = na1 from ((hF183.1 28 rfl).trans ((hF81.1 28 rfl).trans ((hF56.1 28 rfl).trans ((hF35.1 28 rfl).trans ((hF7.1 28 rfl).trans (ex_na1))))))) (vi := vi1) (e_vi := show G178 29 = vi1 from ((hF183.1 29 rfl).trans ((hF81.1 29 rfl).trans ((hF56.1 29 rfl).trans ((hF35.1 29 rfl).trans ((hF7.1 29 rfl).trans (ex_vi1))))))) (lf := A 3 (ln2_180).toNat) (e_lf := show A179 3 (ln2_180).toNat = A 3 (ln2_180).toNat from (congrFun ((hF183.2 3 rfl).trans (((congrFun eA166 3).trans (uA_ne (by decide))).trans ((hF81.2 3 rfl).trans ((hF56.2 3 rfl).trans ((hF35.2 3 rfl).trans ((hF7.2 3 rfl).trans (hFx.2 3 rfl))))))) _)) (ac := at2_74) (e_ac := show G178 10 = at2_74 from ((hF183.1 10 rfl).trans (e84))) (ec := ec2_79) (e_ec := show ecn A179 (G178 31) = ec2_79 from ec195) (i_LT := (LT_ext (((hF183.1 3 rfl).trans ((hF81.1 3 rfl).trans ((hF56.1 3 rfl).trans ((hF35.1 3 rfl).trans ((hF7.1 3 rfl).trans (hFx.1 3 rfl))))))) (((hF183.2 3 rfl).trans (((congrFun eA166 3).trans (uA_ne (by decide))).trans ((hF81.2 3 rfl).trans ((hF56.2 3 rfl).trans ((hF35.2 3 rfl).trans ((hF7.2 3 rfl).trans (hFx.2 3 rfl)))))))) (((hF183.2 4 rfl).trans (((congrFun eA166 4).trans (uA_ne (by decide))).trans ((hF81.2 4 rfl).trans ((hF56.2 4 rfl).trans ((hF35.2 4 rfl).trans ((hF7.2 4 rfl).trans (hFx.2 4 rfl)))))))) i_LT)) (i_SV := (SV_fx i_SV e_vi (show G178 29 = vi1 from ((hF183.1 29 rfl).trans ((hF81.1 29 rfl).trans ((hF56.1 29 rfl).trans ((hF35.1 29 rfl).trans ((hF7.1 29 rfl).trans (ex_vi1))))))) (by omega) hV190)) (i_PQ := (PQ_fx i_PQ hS189 (by omega) (hF187.2 29 rfl) (hF187.2 30 rfl))) (hvb := hvb) (h_lv := ⟨(by omega), (by omega)⟩)  (p_0 := by omega) (p_1 := by omega) (p_2 := by omega) (p_3 := by omega) (p_4 := by omega) (p_5 := by omega) (p_6 := by omega) (p_7 := by omega) (p_8 := by omega) (p_9 := by omega) (p_10 := by omega)) (fun o V' hq => ?_)
                obtain ⟨G211, A212, r213, ln2_214, at2_215, fk2_216, nd2_217, sy2_218, na2_219, vi2_220, lf2_221, ec2_222, rfl, rfl, hW223, hF224, hQ225, hQ226, hQ227, b228, e229, e230, e231, e232, e233, e234, e235, e236, e237, p238, p239, p240, p241, p242, p243, p244, p245, p246, q247⟩ := hq
                have hF248 := Fr_tr hF187 hF224 (Fr_sub (by decide)) (Fr_sub (by decide))
                have k249 : A212 17 (nd1).toNat = r73 := (hQ225 17 _ rfl (by omega)).trans (show A179 17 (nd1).toNat = r73 from (congrFun (hF183.2 17 rfl) _).trans (q169))
                have hP250 := Pf_tr hP188 hQ225 (by omega)
                have hS251 := Fx_tr hS189 hQ226 (by omega)
                have hV252 := Fx_tr hV190 hQ227 (by omega)
                have sf253 : ND A212 (n) (30) (0) (0) (0) (0) (Ax 21 (n).toNat) (0) := ND_ag (by omega) (Ag_pf hQ225 (by omega)) sf191
                have sf254 : CI 1 A212 (sy1) pb (k) (Vs) (n) (last) (n + 1) (nd1) (sy) (sy1) := CI_ag (by omega) (by omega) (Fx_su hQ226 (by omega)) (Qg_fr hF224 (by decide)) (Ag_pf hQ225 (by omega)) (hQ225 21 _ rfl (by omega)) sf192
                have sf255 : ND A212 (nd1) (34) (r73) (0) (0) (0) (0) (0) := ND_ag (by omega) (Ag_pf hQ225 (by omega)) sf193
                have sf256 : wE A212 Vs sb (2 * 9 + 2) (r73) (nd2_53) (nd2_77) := wE_ag (by omega) (Fx_su hQ226 (by omega)) (Ag_pf hQ225 (by omega)) sf194
                have bln2_214 : (0 : Int) ≤ ln2_214 ∧ ln2_214 ≤ 3000 := e229 ▸ hW223.1 9
                have bat2_215 : (0 : Int) ≤ at2_215 ∧ at2_215 ≤ 3002 := e230 ▸ hW223.1 10
                have bfk2_216 : (0 : Int) ≤ fk2_216 ∧ fk2_216 ≤ 6 := e231 ▸ hW223.1 16
                have bnd2_217 : (0 : Int) ≤ nd2_217 ∧ nd2_217 ≤ 6999 := e232 ▸ hW223.1 31
                have bsy2_218 : (0 : Int) ≤ sy2_218 ∧ sy2_218 ≤ 202 := e233 ▸ hW223.1 19
                have bna2_219 : (0 : Int) ≤ na2_219 ∧ na2_219 ≤ 200 := e234 ▸ hW223.1 28
                have bvi2_220 : (0 : Int) ≤ vi2_220 ∧ vi2_220 ≤ 202 := e235 ▸ hW223.1 29
                have blf2_221 : (0 : Int) ≤ lf2_221 ∧ lf2_221 ≤ 3000 := e236 ▸ hW223.2 3 _
                refine .inr ⟨_, rfl, ?_⟩
                rcases q247 with ⟨a257, a258⟩ | ⟨a259, a260, a261, a262, a263, a264, a265, a266, a267, a268⟩
                · have _q : True := trivial
                  refine jx_ld (pc' := 80) (l' := jSto1 L70 5 (.int (i32 (r213)))) (st' := []) rfl rfl ?_
                  obtain ⟨L269, eL269⟩ : ∃ q, q = jSto1 L70 5 (.int (i32 (r213))) := ⟨_, rfl⟩
                  rw [← eL269]
                  have gL269_0 : jGet L269 0 = some (.ref 66) := eL269 ▸ jg_ne (by decide) gL70_0 rfl
                  have gL269_1 : jGet L269 1 = some (.int (i32 (lv))) := eL269 ▸ jg_ne (by decide) gL70_1 rfl
                  have gL269_2 : jGet L269 2 = some (.int (i32 (n))) := eL269 ▸ jg_ne (by decide) gL70_2 rfl
                  have gL269_3 : jGet L269 3 = some (.int (i32 (last))) := eL269 ▸ jg_ne (by decide) gL70_3 rfl
                  have gL269_4 : jGet L269 4 = some (.int (i32 (nd1))) := eL269 ▸ jg_ne (by decide) gL70_4 rfl
                  have gL269_5 : jGet L269 5 = some (.int (i32 (r213))) := eL269 ▸ jg_eq
                  refine jx_ld (pc' := 81) (l' := L269) (st' := [.ref 66]) rfl (jl_aloadn gL269_0) ?_
                  refine jx_vr (pc' := 84) (as := []) (st := []) rfl rfl rfl rfl ⟨rfl, rfl, Nat.le_of_ble_eq_true rfl⟩ rfl rfl (c_bad (dd := d) (hd := by omega) (hW := hW223)  (fk := fk2_216) (e_fk := show G211 16 = fk2_216 from (e231))    ) (fun o V' hq => ?_)
                  obtain ⟨r270, rfl, rfl, b271, q272⟩ := hq
                  refine .inr ⟨_, rfl, ?_⟩
                  rcases q272 with ⟨rfl, a273⟩ | ⟨rfl, a274⟩
                  · have _q : True := trivial
                    refine jx_if_eq (pc' := 87) (tg := 89) rfl rfl rfl (by decide) (by decide) (fun h275 => ?_) (fun h275 => ?_)
                    · have _q := h275
                      exact absurd h275 (by omega)
                    · have _q := h275
                      refine jx_ar (pc' := 88) (st' := [.int (i32 (0))]) rfl rfl rfl rfl ?_
                      refine jx_rt (v := some (.int (i32 (0)))) rfl rfl rfl rfl rfl rfl ?_
                      exact ⟨_, _, _, ln2_214, at2_215, fk2_216, nd2_217, sy2_218, na2_219, vi2_220, lf2_221, ec2_222, rfl, rfl, hW223, hF248, hP250, hS251, hV252, by omega, (e229), (e230), (e231), (e232), (e233), (e234), (e235), (e236), e237, by omega, by omega, by omega, by omega, by omega, by omega, by omega, by omega, by omega, by omega, by first | exact Or.inl (⟨by omega, by omega⟩)⟩
                  · have _q : True := trivial
                    exfalso
                    omega
                · have _q : True := trivial
                  refine jx_ld (pc' := 80) (l' := jSto1 L70 5 (.int (i32 (r213)))) (st' := []) rfl rfl ?_
                  obtain ⟨L276, eL276⟩ : ∃ q, q = jSto1 L70 5 (.int (i32 (r213))) := ⟨_, rfl⟩
                  rw [← eL276]
                  have gL276_0 : jGet L276 0 = some (.ref 66) := eL276 ▸ jg_ne (by decide) gL70_0 rfl
                  have gL276_1 : jGet L276 1 = some (.int (i32 (lv))) := eL276 ▸ jg_ne (by decide) gL70_1 rfl
                  have gL276_2 : jGet L276 2 = some (.int (i32 (n))) := eL276 ▸ jg_ne (by decide) gL70_2 rfl
                  have gL276_3 : jGet L276 3 = some (.int (i32 (last))) := eL276 ▸ jg_ne (by decide) gL70_3 rfl
                  have gL276_4 : jGet L276 4 = some (.int (i32 (nd1))) := eL276 ▸ jg_ne (by decide) gL70_4 rfl
                  have gL276_5 : jGet L276 5 = some (.int (i32 (r213))) := eL276 ▸ jg_eq
                  refine jx_ld (pc' := 81) (l' := L276) (st' := [.ref 66]) rfl (jl_aloadn gL276_0) ?_
                  refine jx_vr (pc' := 84) (as := []) (st := []) rfl rfl rfl rfl ⟨rfl, rfl, Nat.le_of_ble_eq_true rfl⟩ rfl rfl (c_bad (dd := d) (hd := by omega) (hW := hW223)  (fk := fk2_216) (e_fk := show G211 16 = fk2_216 from (e231))    ) (fun o V' hq => ?_)
                  obtain ⟨r277, rfl, rfl, b278, q279⟩ := hq
                  refine .inr ⟨_, rfl, ?_⟩
                  rcases q279 with ⟨rfl, a280⟩ | ⟨rfl, a281⟩
                  · have _q : True := trivial
                    exfalso
                    omega
                  · have _q : True := trivial
                    refine jx_if_eq (pc' := 87) (tg := 89) rfl rfl rfl (by decide) (by decide) (fun h282 => ?_) (fun h282 => ?_)
                    · have _q := h282
                      refine jx_ld (pc' := 90) (l' := L276) (st' := [.ref 66]) rfl (jl_aloadn gL276_0) ?_
                      refine jr_get (pc' := 93) (i := 38) (v := .ref 88) rfl rfl (by decide) rfl rfl ?_
                      refine jx_ld (pc' := 95) (l' := L276) (st' := [.int (i32 (nd1)), .ref 88]) rfl (jl_iload gL276_4) ?_
                      refine jx_ld (pc' := 97) (l' := L276) (st' := [.int (i32 (r213)), .int (i32 (nd1)), .ref 88]) rfl (jl_iload gL276_5) ?_
                      refine jr_st (pc' := 98) (i := 21) (m := 7000) (z := nd1) (y := r213) rfl (by decide) rfl (by decide) (by omega) (by omega) rfl ?_
                      have hW284 : Wk G211 (uA A212 21 (nd1).toNat (r213)) := Wk_a hW223 (show (-2147483648 : Int) ≤ r213 by omega) (show r213 ≤ (2147483647 : Int) by omega)
                      have hF285 := Fr_a (z := r213) (k := 21) (n := (nd1).toNat) hF248 (by decide)
                      obtain ⟨A283, eA283⟩ : ∃ q, q = uA A212 21 (nd1).toNat (r213) := ⟨_, rfl⟩
                      rw [← eA283]
                      rw [← eA283] at hW284 hF285
                      have q286 : A283 21 (nd1).toNat = r213 := by rw [eA283]; exact uA_eq
                      have hP287 : Pf nd A A283 := eA283 ▸ Pf_a hP250 (z := nd1) (by omega) (by omega)
                      have hS288 : Fx sr (sy) A A283 := eA283 ▸ Fx_n hS251 rfl
                      have hV289 : Fx [14] (vi) A A283 := eA283 ▸ Fx_n hV252 rfl
                      have sf290 : ND A283 (n) (30) (0) (0) (0) (0) (Ax 21 (n).toNat) (0) := ND_ag (by omega) (Ag_st eA283 (by omega) (by omega)) sf253
                      have sf291 : CI 1 A283 (sy1) pb (k) (Vs) (n) (last) (n + 1) (nd1) (sy) (sy1) := CI_ag (by omega) (by omega) (Sg_ne eA283 rfl) (Qg_ne eA283 rfl) (Ag_st eA283 (by omega) (by omega)) ((by rw [eA283]; exact uA_ni (by omega))) sf254
                      have sf292 : ND A283 (nd1) (34) (r73) (0) (0) (0) (r213) (0) := ND_f eA283 sf255
                      have sf293 : wE A283 Vs sb (2 * 9 + 2) (r73) (nd2_53) (nd2_77) := wE_ag (by omega) (Sg_ne eA283 rfl) (Ag_st eA283 (by omega) (by omega)) sf256
                      have sf294 : wP A283 (sy2_218) pb (k) (Vs) (r213) (nd2_77) (nd2_217) (sy1) (sy2_218) := wP_ag (Sg_ne eA283 rfl) (Qg_ne eA283 rfl) (by omega) (by omega) (Ax_ag (Ag_st eA283 (by omega) (by omega))) a265
                      have sf295 : NX A283 (r213) := NX_r eA283 (by decide) a266
                      have ec296 : ecn A283 (G211 31) = ec2_222 := (ecn_e ((congrFun eA283 15).trans (uA_ne (by decide)))).trans e237
                      refine jx_ld (pc' := 99) (l' := L276) (st' := [.ref 66]) rfl (jl_aloadn gL276_0) ?_
                      refine jx_ld (pc' := 100) (l' := L276) (st' := [.int (i32 (n)), .ref 66]) rfl (jl_iloadn gL276_2) ?_
                      refine jx_ld (pc' := 101) (l' := L276) (st' := [.int (i32 (last)), .int (i32 (n)), .ref 66]) rfl (jl_iloadn gL276_3) ?_
                      refine jx_ld (pc' := 103) (l' := L276) (st' := [.int (i32 (nd1)), .int (i32 (last)), .int (i32 (n)), .ref 66]) rfl (jl_iload gL276_4) ?_
                      refine jx_vr (pc' := 106) (as := [.int (i32 (n)), .int (i32 (last)), .int (i32 (nd1))]) (st := []) rfl rfl rfl rfl ⟨rfl, rfl, Nat.le_of_ble_eq_true rfl⟩ rfl rfl (c_addTo (dd := d) (zz := nd) (hd := by omega) (hW := hW284) (n := n) (last := last) (one := nd1)   (h_n := ⟨(Int.le_trans (by decide : (-2147483648 : Int) ≤ -2147483648) rx_n.1), (Int.le_trans rx_n.2 (by decide : (2147483647 : Int) ≤ 2147483647))⟩) (h_last := ⟨(Int.le_trans (by decide : (-2147483648 : Int) ≤ -2147483648) rx_last.1), (Int.le_trans rx_last.2 (by decide : (2147483647 : Int) ≤ 2147483647))⟩) (h_one := ⟨(Int.le_trans (by decide : (-2147483648 : Int) ≤ 0) b_nd1.1), (Int.le_trans b_nd1.2 (by decide : (6999 : Int) ≤ 2147483647))⟩)  (p_0 := by omega) (p_1 := by omega) (p_2 := by omega) (p_3 := by omega)) (fun o V' hq => ?_)
                      obtain ⟨G297, A298, rfl, rfl, hW299, hF300, hQ301, q302⟩ := hq
                      have hF303 := Fr_tr hF285 hF300 (Fr_sub (by decide)) (Fr_sub (by decide))
                      have hP304 := Pf_tr hP287 hQ301 (by omega)
                      have hS305 := Fx_f hS288 hF300 (by decide)
                      have hV306 := Fx_f hV289 hF300 (by decide)
                      have ec307 : ecn A298 (G297 31) = ec2_222 := (ecn_f (hF300.2 15 rfl) (hF300.1 31 rfl)).trans ec296
                      refine .inl ⟨rfl, ?_⟩
                      rcases q302 with ⟨a308, a309⟩ | ⟨a310, a311⟩
                      · have _q : True := trivial
                        have sf312 : ND A298 (n) (30) (0) (0) (0) (0) (nd1) (0) := ND_f a309 sf290
                        have sf313 : CI 1 A298 (sy2_218) pb (k) (Vs) (n) (nd1) (n + 1) (nd2_217) (sy) (sy2_218) := CI_one a309 (by omega) (by omega) (by omega) (by omega) (by omega) (by omega) (show RQ 1 A283 (sy2_218) pb (k) (Vs) (nd1) (nd1) (nd2_217) (sy1) (sy2_218) from wI_mk (m := nd2_77) sf292 (by omega) (by omega) (by omega) (wE_sb (by omega) (wE_mono (by omega) (by omega) (by omega) sf293)) (wP_eq sf294 (by omega) rfl rfl (by omega) rfl (by omega) rfl (by omega))) (NX_nd sf292) (CI_sb (by omega) sf291)
                        have sf314 : ND A298 (nd1) (34) (r73) (0) (0) (0) (r213) (0) := ND_ag (by omega) (Ag_st a309 (by omega) (by omega)) sf292
                        have sf315 : wE A298 Vs sb (2 * 9 + 2) (r73) (nd2_53) (nd2_77) := wE_ag (by omega) (Sg_ne a309 rfl) (Ag_st a309 (by omega) (by omega)) sf293
                        have sf316 : wP A298 (sy2_218) pb (k) (Vs) (r213) (nd2_77) (nd2_217) (sy1) (sy2_218) := wP_ag (Sg_ne a309 rfl) (Qg_ne a309 rfl) (by omega) (by omega) (Ax_ag (Ag_st a309 (by omega) (by omega))) sf294
                        have sf317 : NX A298 (r213) := NX_r a309 (by decide) sf295
                        refine jx_ld (pc' := 108) (l' := L276) (st' := [.int (i32 (nd1))]) rfl (jl_iload gL276_4) ?_
                        refine jx_ld (pc' := 109) (l' := jSto1 L276 3 (.int (i32 (nd1)))) (st' := []) rfl rfl ?_
                        obtain ⟨L318, eL318⟩ : ∃ q, q = jSto1 L276 3 (.int (i32 (nd1))) := ⟨_, rfl⟩
                        rw [← eL318]
                        have gL318_0 : jGet L318 0 = some (.ref 66) := eL318 ▸ jg_ne (by decide) gL276_0 rfl
                        have gL318_1 : jGet L318 1 = some (.int (i32 (lv))) := eL318 ▸ jg_ne (by decide) gL276_1 rfl
                        have gL318_2 : jGet L318 2 = some (.int (i32 (n))) := eL318 ▸ jg_ne (by decide) gL276_2 rfl
                        have gL318_4 : jGet L318 4 = some (.int (i32 (nd1))) := eL318 ▸ jg_ne (by decide) gL276_4 rfl
                        have gL318_5 : jGet L318 5 = some (.int (i32 (r213))) := eL318 ▸ jg_ne (by decide) gL276_5 rfl
                        have gL318_3 : jGet L318 3 = some (.int (i32 (nd1))) := eL318 ▸ jg_eq
                        refine jx_go (tg := 21) rfl rfl ?_
                        exact ih21 _ (by omega) L318 G297 A298 (n) (nd1) (ln2_214) (at2_215) (fk2_216) (nd2_217) (sy2_218) (na2_219) (vi2_220) (lf2_221) (ec2_222) rfl gL318_0 gL318_1 gL318_2 gL318_3 hW299 hF303 hP304 hS305 hV306 (((hF300.1 9 rfl).trans (e229))) (((hF300.1 10 rfl).trans (e230))) (((hF300.1 16 rfl).trans (e231))) (((hF300.1 31 rfl).trans (e232))) (((hF300.1 19 rfl).trans (e233))) (((hF300.1 28 rfl).trans (e234))) (((hF300.1 29 rfl).trans (e235))) ((congrFun ((hF300.2 3 rfl).trans ((congrFun eA283 3).trans (uA_ne (by decide)))) _).trans (e236)) (ec307) (by omega) (by omega) (by omega) (by omega) (by omega) (by omega) (by omega) (by omega) (by omega) (by omega) (by omega) (by omega) (by omega) (by omega) (by omega) (by omega) ((ND_sf sf312)) (sf313) (by omega) (by omega)
                      · have _q : True := trivial
                        have sf319 : ND A298 (n) (30) (0) (0) (0) (0) (Ax 21 (n).toNat) (0) := ND_ag (by omega) (Ag_st a311 (by omega) (by omega)) sf290
                        have sf320 : CI 1 A298 (sy2_218) pb (k) (Vs) (n) (nd1) (n + 1) (nd2_217) (sy) (sy2_218) := CI_two a311 (by omega) (by omega) (by omega) (by omega) (by omega) (show RQ 1 A283 (sy2_218) pb (k) (Vs) (nd1) (nd1) (nd2_217) (sy1) (sy2_218) from wI_mk (m := nd2_77) sf292 (by omega) (by omega) (by omega) (wE_sb (by omega) (wE_mono (by omega) (by omega) (by omega) sf293)) (wP_eq sf294 (by omega) rfl rfl (by omega) rfl (by omega) rfl (by omega))) (NX_nd sf292) (CI_sb (by omega) sf291)
                        have sf321 : ND A298 (nd1) (34) (r73) (0) (0) (0) (r213) (0) := ND_ag (by omega) (Ag_st a311 (by omega) (by omega)) sf292
                        have sf322 : wE A298 Vs sb (2 * 9 + 2) (r73) (nd2_53) (nd2_77) := wE_ag (by omega) (Sg_ne a311 rfl) (Ag_st a311 (by omega) (by omega)) sf293
                        have sf323 : wP A298 (sy2_218) pb (k) (Vs) (r213) (nd2_77) (nd2_217) (sy1) (sy2_218) := wP_ag (Sg_ne a311 rfl) (Qg_ne a311 rfl) (by omega) (by omega) (Ax_ag (Ag_st a311 (by omega) (by omega))) sf294
                        have sf324 : NX A298 (r213) := NX_ag (by omega) (Ag_st a311 (by omega) (by omega)) sf295
                        refine jx_ld (pc' := 108) (l' := L276) (st' := [.int (i32 (nd1))]) rfl (jl_iload gL276_4) ?_
                        refine jx_ld (pc' := 109) (l' := jSto1 L276 3 (.int (i32 (nd1)))) (st' := []) rfl rfl ?_
                        obtain ⟨L325, eL325⟩ : ∃ q, q = jSto1 L276 3 (.int (i32 (nd1))) := ⟨_, rfl⟩
                        rw [← eL325]
                        have gL325_0 : jGet L325 0 = some (.ref 66) := eL325 ▸ jg_ne (by decide) gL276_0 rfl
                        have gL325_1 : jGet L325 1 = some (.int (i32 (lv))) := eL325 ▸ jg_ne (by decide) gL276_1 rfl
                        have gL325_2 : jGet L325 2 = some (.int (i32 (n))) := eL325 ▸ jg_ne (by decide) gL276_2 rfl
                        have gL325_4 : jGet L325 4 = some (.int (i32 (nd1))) := eL325 ▸ jg_ne (by decide) gL276_4 rfl
                        have gL325_5 : jGet L325 5 = some (.int (i32 (r213))) := eL325 ▸ jg_ne (by decide) gL276_5 rfl
                        have gL325_3 : jGet L325 3 = some (.int (i32 (nd1))) := eL325 ▸ jg_eq
                        refine jx_go (tg := 21) rfl rfl ?_
                        exact ih21 _ (by omega) L325 G297 A298 (n) (nd1) (ln2_214) (at2_215) (fk2_216) (nd2_217) (sy2_218) (na2_219) (vi2_220) (lf2_221) (ec2_222) rfl gL325_0 gL325_1 gL325_2 gL325_3 hW299 hF303 hP304 hS305 hV306 (((hF300.1 9 rfl).trans (e229))) (((hF300.1 10 rfl).trans (e230))) (((hF300.1 16 rfl).trans (e231))) (((hF300.1 31 rfl).trans (e232))) (((hF300.1 19 rfl).trans (e233))) (((hF300.1 28 rfl).trans (e234))) (((hF300.1 29 rfl).trans (e235))) ((congrFun ((hF300.2 3 rfl).trans ((congrFun eA283 3).trans (uA_ne (by decide)))) _).trans (e236)) (ec307) (by omega) (by omega) (by omega) (by omega) (by omega) (by omega) (by omega) (by omega) (by omega) (by omega) (by omega) (by omega) (by omega) (by omega) (by omega) (by omega) ((ND_sf sf319)) (sf320) (by omega) (by omega)
                    · have _q := h282
                      exact absurd h282 (by omega)
              · have _q := h210
                exact absurd h210 (by omega)
          · have _q : True := trivial
            refine jx_ld (pc' := 61) (l' := L70) (st' := [.ref 66]) rfl (jl_aloadn gL70_0) ?_
            refine jx_vr (pc' := 64) (as := []) (st := []) rfl rfl rfl rfl ⟨rfl, rfl, Nat.le_of_ble_eq_true rfl⟩ rfl rfl (c_bad (dd := d) (hd := by omega) (hW := hW182)  (fk := fk2_181) (e_fk := show G178 16 = fk2_181 from (e185))    ) (fun o V' hq => ?_)
            obtain ⟨r326, rfl, rfl, b327, q328⟩ := hq
            refine .inr ⟨_, rfl, ?_⟩
            rcases q328 with ⟨rfl, a329⟩ | ⟨rfl, a330⟩
            · have _q : True := trivial
              refine jx_if_eq (pc' := 67) (tg := 71) rfl rfl rfl (by decide) (by decide) (fun h331 => ?_) (fun h331 => ?_)
              · have _q := h331
                exact absurd h331 (by omega)
              · have _q := h331
                refine jx_ar (pc' := 68) (st' := [.int (i32 (0))]) rfl rfl rfl rfl ?_
                refine jx_go (tg := 78) rfl rfl ?_
                refine jx_ld (pc' := 80) (l' := jSto1 L70 5 (.int (i32 (0)))) (st' := []) rfl rfl ?_
                obtain ⟨L332, eL332⟩ : ∃ q, q = jSto1 L70 5 (.int (i32 (0))) := ⟨_, rfl⟩
                rw [← eL332]
                have gL332_0 : jGet L332 0 = some (.ref 66) := eL332 ▸ jg_ne (by decide) gL70_0 rfl
                have gL332_1 : jGet L332 1 = some (.int (i32 (lv))) := eL332 ▸ jg_ne (by decide) gL70_1 rfl
                have gL332_2 : jGet L332 2 = some (.int (i32 (n))) := eL332 ▸ jg_ne (by decide) gL70_2 rfl
                have gL332_3 : jGet L332 3 = some (.int (i32 (last))) := eL332 ▸ jg_ne (by decide) gL70_3 rfl
                have gL332_4 : jGet L332 4 = some (.int (i32 (nd1))) := eL332 ▸ jg_ne (by decide) gL70_4 rfl
                have gL332_5 : jGet L332 5 = some (.int (i32 (0))) := eL332 ▸ jg_eq
                refine jx_ld (pc' := 81) (l' := L332) (st' := [.ref 66]) rfl (jl_aloadn gL332_0) ?_
                refine jx_vr (pc' := 84) (as := []) (st := []) rfl rfl rfl rfl ⟨rfl, rfl, Nat.le_of_ble_eq_true rfl⟩ rfl rfl (c_bad (dd := d) (hd := by omega) (hW := hW182)  (fk := fk2_181) (e_fk := show G178 16 = fk2_181 from (e185))    ) (fun o V' hq => ?_)
                obtain ⟨r333, rfl, rfl, b334, q335⟩ := hq
                refine .inr ⟨_, rfl, ?_⟩
                rcases q335 with ⟨rfl, a336⟩ | ⟨rfl, a337⟩
                · have _q : True := trivial
                  refine jx_if_eq (pc' := 87) (tg := 89) rfl rfl rfl (by decide) (by decide) (fun h338 => ?_) (fun h338 => ?_)
                  · have _q := h338
                    exact absurd h338 (by omega)
                  · have _q := h338
                    refine jx_ar (pc' := 88) (st' := [.int (i32 (0))]) rfl rfl rfl rfl ?_
                    refine jx_rt (v := some (.int (i32 (0)))) rfl rfl rfl rfl rfl rfl ?_
                    exact ⟨_, _, _, ln2_180, at2_74, fk2_181, nd2_77, sy1, na1, vi1, A 3 (ln2_180).toNat, ec2_79, rfl, rfl, hW182, hF187, hP188, hS189, hV190, by omega, (e184), ((hF183.1 10 rfl).trans (e84)), (e185), ((hF183.1 31 rfl).trans (e87)), ((hF183.1 19 rfl).trans ((hF81.1 19 rfl).trans ((hF56.1 19 rfl).trans ((hF35.1 19 rfl).trans ((hF7.1 19 rfl).trans (ex_sy1)))))), ((hF183.1 28 rfl).trans ((hF81.1 28 rfl).trans ((hF56.1 28 rfl).trans ((hF35.1 28 rfl).trans ((hF7.1 28 rfl).trans (ex_na1)))))), ((hF183.1 29 rfl).trans ((hF81.1 29 rfl).trans ((hF56.1 29 rfl).trans ((hF35.1 29 rfl).trans ((hF7.1 29 rfl).trans (ex_vi1)))))), (congrFun ((hF183.2 3 rfl).trans (((congrFun eA166 3).trans (uA_ne (by decide))).trans ((hF81.2 3 rfl).trans ((hF56.2 3 rfl).trans ((hF35.2 3 rfl).trans ((hF7.2 3 rfl).trans (hFx.2 3 rfl))))))) _), ec195, by omega, by omega, by omega, by omega, by omega, by omega, by omega, by omega, by omega, by omega, by first | exact Or.inl (⟨by omega, by omega⟩)⟩
                · have _q : True := trivial
                  exfalso
                  omega
            · have _q : True := trivial
              exfalso
              omega
    · have _q : True := trivial
      refine jx_if_eq (pc' := 29) (tg := 112) rfl rfl rfl (by decide) (by decide) (fun h339 => ?_) (fun h339 => ?_)
      · have _q := h339
        refine jx_ld (pc' := 113) (l' := L) (st' := [.ref 66]) rfl (jl_aloadn gL_0) ?_
        refine jx_vr (pc' := 116) (as := []) (st := []) rfl rfl rfl rfl ⟨rfl, rfl, Nat.le_of_ble_eq_true rfl⟩ rfl rfl (c_bad (dd := d) (hd := by omega) (hW := hW6)  (fk := fk2_5) (e_fk := show G2 16 = fk2_5 from (e9))    ) (fun o V' hq => ?_)
        obtain ⟨r340, rfl, rfl, b341, q342⟩ := hq
        refine .inr ⟨_, rfl, ?_⟩
        rcases q342 with ⟨rfl, a343⟩ | ⟨rfl, a344⟩
        · have _q : True := trivial
          refine jx_if_ne (pc' := 119) (tg := 131) rfl rfl rfl (by decide) (by decide) (fun h345 => ?_) (fun h345 => ?_)
          · have _q := h345
            refine jx_ld (pc' := 132) (l' := L) (st' := [.int (i32 (n))]) rfl (jl_iloadn gL_2) ?_
            refine jx_rt (v := some (.int (i32 (n)))) rfl rfl rfl rfl rfl rfl ?_
            exact ⟨_, _, _, ln1, at1, fk2_5, nd1, sy1, na1, vi1, lf1, ec1, rfl, rfl, hW6, hF11, hP12, hS13, hV14, by omega, ((hF7.1 9 rfl).trans (ex_ln1)), ((hF7.1 10 rfl).trans (ex_at1)), (e9), ((hF7.1 31 rfl).trans (ex_nd1)), ((hF7.1 19 rfl).trans (ex_sy1)), ((hF7.1 28 rfl).trans (ex_na1)), ((hF7.1 29 rfl).trans (ex_vi1)), (congrFun (hF7.2 3 rfl) _).trans (ex_lf1), ec17, by omega, by omega, by omega, by omega, by omega, by omega, by omega, by omega, by omega, by omega, by first | exact Or.inl (⟨by omega, by omega⟩)⟩
          · have _q := h345
            exact absurd h345 (by omega)
        · have _q : True := trivial
          exfalso
          omega
      · have _q := h339
        exact absurd h339 (by omega)
    · have _q : True := trivial
      refine jx_if_eq (pc' := 29) (tg := 112) rfl rfl rfl (by decide) (by decide) (fun h346 => ?_) (fun h346 => ?_)
      · have _q := h346
        refine jx_ld (pc' := 113) (l' := L) (st' := [.ref 66]) rfl (jl_aloadn gL_0) ?_
        refine jx_vr (pc' := 116) (as := []) (st := []) rfl rfl rfl rfl ⟨rfl, rfl, Nat.le_of_ble_eq_true rfl⟩ rfl rfl (c_bad (dd := d) (hd := by omega) (hW := hW6)  (fk := fk2_5) (e_fk := show G2 16 = fk2_5 from (e9))    ) (fun o V' hq => ?_)
        obtain ⟨r347, rfl, rfl, b348, q349⟩ := hq
        refine .inr ⟨_, rfl, ?_⟩
        rcases q349 with ⟨rfl, a350⟩ | ⟨rfl, a351⟩
        · have _q : True := trivial
          exfalso
          omega
        · have _q : True := trivial
          refine jx_if_ne (pc' := 119) (tg := 131) rfl rfl rfl (by decide) (by decide) (fun h352 => ?_) (fun h352 => ?_)
          · have _q := h352
            exact absurd h352 (by omega)
          · have _q := h352
            refine jx_ld (pc' := 120) (l' := L) (st' := [.int (i32 (last))]) rfl (jl_iloadn gL_3) ?_
            refine jx_if_ne (pc' := 123) (tg := 131) rfl rfl rfl (Int.le_trans (by decide : (-2147483648 : Int) ≤ -2147483648) rx_last.1) (Int.le_trans rx_last.2 (by decide : (2147483647 : Int) ≤ 2147483647)) (fun h353 => ?_) (fun h353 => ?_)
            · have _q := h353
              refine jx_ld (pc' := 132) (l' := L) (st' := [.int (i32 (n))]) rfl (jl_iloadn gL_2) ?_
              refine jx_rt (v := some (.int (i32 (n)))) rfl rfl rfl rfl rfl rfl ?_
              exact ⟨_, _, _, ln1, at1, fk2_5, nd1, sy1, na1, vi1, lf1, ec1, rfl, rfl, hW6, hF11, hP12, hS13, hV14, by omega, ((hF7.1 9 rfl).trans (ex_ln1)), ((hF7.1 10 rfl).trans (ex_at1)), (e9), ((hF7.1 31 rfl).trans (ex_nd1)), ((hF7.1 19 rfl).trans (ex_sy1)), ((hF7.1 28 rfl).trans (ex_na1)), ((hF7.1 29 rfl).trans (ex_vi1)), (congrFun (hF7.2 3 rfl) _).trans (ex_lf1), ec17, by omega, by omega, by omega, by omega, by omega, by omega, by omega, by omega, by omega, by omega, by first | exact Or.inr ((⟨by omega, by omega, by omega, by omega, by omega, by omega, by omega, (wS_ifc sf15 (CI_eq (CI_sb (by omega) sf16) rfl (by omega) (by omega) (by omega) (by omega)) (by omega)), (NX_nd sf15), by omega, by omega⟩))⟩
            · have _q := h353
              refine jx_ld (pc' := 124) (l' := L) (st' := [.ref 66]) rfl (jl_aloadn gL_0) ?_
              refine jx_ld (pc' := 125) (l' := L) (st' := [.int (i32 (lv)), .ref 66]) rfl (jl_iloadn gL_1) ?_
              refine jx_ar (pc' := 126) (st' := [.int (i32 (1)), .int (i32 (lv)), .ref 66]) rfl rfl rfl rfl ?_
              refine jx_add (pc' := 127) rfl rfl ?_
              refine jx_vr (pc' := 130) (as := [.int (i32 ((lv + 1)))]) (st := []) rfl rfl rfl rfl ⟨rfl, rfl, Nat.le_of_ble_eq_true rfl⟩ rfl rfl (c_needLevel (dd := d) (hd := by omega) (hW := hW6) (lv := (lv + 1)) (ln := ln1) (e_ln := show G2 9 = ln1 from ((hF7.1 9 rfl).trans (ex_ln1))) (li := li) (e_li := show G2 3 = li from ((hF7.1 3 rfl).trans ((hFx.1 3 rfl).trans (e_li)))) (fk := fk2_5) (e_fk := show G2 16 = fk2_5 from (e9)) (ll := A 5 (ln1).toNat) (e_ll := show A3 5 (ln1).toNat = A 5 (ln1).toNat from (congrFun ((hF7.2 5 rfl).trans (hFx.2 5 rfl)) _))  (h_lv := ⟨(by omega), (by omega)⟩)  ) (fun o V' hq => ?_)
              obtain ⟨G354, A355, r356, fk2_357, rfl, rfl, hW358, hF359, b360, e361, q362⟩ := hq
              have hF363 := Fr_tr hF11 hF359 (Fr_sub (by decide)) (Fr_sub (by decide))
              have hP364 := Pf_f hP12 hF359 (by decide)
              have hS365 := Fx_f hS13 hF359 (by decide)
              have hV366 := Fx_f hV14 hF359 (by decide)
              have sf367 : ND A355 (n) (30) (0) (0) (0) (0) (Ax 21 (n).toNat) (0) := ND_ag (by omega) (Ag_fr hF359 (by decide)) sf15
              have sf368 : CI 1 A355 (sy1) pb (k) (Vs) (n) (last) (n + 1) (nd1) (sy) (sy1) := CI_ag (by omega) (by omega) (Sg_fr hF359 (by decide)) (Qg_fr hF359 (by decide)) (Ag_fr hF359 (by decide)) (congrFun (hF359.2 21 rfl) _) sf16
              have ec369 : ecn A355 (G354 31) = ec1 := (ecn_f (hF359.2 15 rfl) (hF359.1 31 rfl)).trans ec17
              have bfk2_357 : (0 : Int) ≤ fk2_357 ∧ fk2_357 ≤ 6 := e361 ▸ hW358.1 16
              refine .inr ⟨_, rfl, ?_⟩
              rcases q362 with ⟨rfl, a370, a371, a372, a373⟩ | ⟨rfl, a374⟩
              · have _q : True := trivial
                have b375 : (0 : Int) ≤ A 4 (ln1).toNat ∧ A 4 (ln1).toNat ≤ 3000 := hW.2 4 _
                have lt376 : lf1 < A 4 (ln1).toNat := LT_at (LT_ext (((hF359.1 3 rfl).trans ((hF7.1 3 rfl).trans (hFx.1 3 rfl)))) (((hF359.2 3 rfl).trans ((hF7.2 3 rfl).trans (hFx.2 3 rfl)))) (((hF359.2 4 rfl).trans ((hF7.2 4 rfl).trans (hFx.2 4 rfl)))) i_LT) (show G354 3 = li from ((hF359.1 3 rfl).trans ((hF7.1 3 rfl).trans ((hFx.1 3 rfl).trans (e_li))))) (show A355 3 (ln1).toNat = lf1 from (congrFun ((hF359.2 3 rfl).trans (hF7.2 3 rfl)) _).trans (ex_lf1)) (show A355 4 (ln1).toNat = A 4 (ln1).toNat from (congrFun ((hF359.2 4 rfl).trans ((hF7.2 4 rfl).trans (hFx.2 4 rfl))) _)) (by omega) (by omega)
                refine jx_ar (pc' := 131) (st' := []) rfl rfl rfl rfl ?_
                refine jx_ld (pc' := 132) (l' := L) (st' := [.int (i32 (n))]) rfl (jl_iloadn gL_2) ?_
                refine jx_rt (v := some (.int (i32 (n)))) rfl rfl rfl rfl rfl rfl ?_
                exact ⟨_, _, _, ln1, at1, fk2_357, nd1, sy1, na1, vi1, lf1, ec1, rfl, rfl, hW358, hF363, hP364, hS365, hV366, by omega, ((hF359.1 9 rfl).trans ((hF7.1 9 rfl).trans (ex_ln1))), ((hF359.1 10 rfl).trans ((hF7.1 10 rfl).trans (ex_at1))), (e361), ((hF359.1 31 rfl).trans ((hF7.1 31 rfl).trans (ex_nd1))), ((hF359.1 19 rfl).trans ((hF7.1 19 rfl).trans (ex_sy1))), ((hF359.1 28 rfl).trans ((hF7.1 28 rfl).trans (ex_na1))), ((hF359.1 29 rfl).trans ((hF7.1 29 rfl).trans (ex_vi1))), (congrFun ((hF359.2 3 rfl).trans (hF7.2 3 rfl)) _).trans (ex_lf1), ec369, by omega, by omega, by omega, by omega, by omega, by omega, by omega, by omega, by omega, by omega, by first | exact Or.inr ((⟨by omega, by omega, by omega, by omega, by omega, by omega, by omega, (wS_ifc sf367 (CI_eq (CI_sb (by omega) sf368) rfl (by omega) (by omega) (by omega) (by omega)) (by omega)), (NX_nd sf367), by omega, by omega⟩))⟩
              · have _q : True := trivial
                refine jx_ar (pc' := 131) (st' := []) rfl rfl rfl rfl ?_
                refine jx_ld (pc' := 132) (l' := L) (st' := [.int (i32 (n))]) rfl (jl_iloadn gL_2) ?_
                refine jx_rt (v := some (.int (i32 (n)))) rfl rfl rfl rfl rfl rfl ?_
                exact ⟨_, _, _, ln1, at1, fk2_357, nd1, sy1, na1, vi1, lf1, ec1, rfl, rfl, hW358, hF363, hP364, hS365, hV366, by omega, ((hF359.1 9 rfl).trans ((hF7.1 9 rfl).trans (ex_ln1))), ((hF359.1 10 rfl).trans ((hF7.1 10 rfl).trans (ex_at1))), (e361), ((hF359.1 31 rfl).trans ((hF7.1 31 rfl).trans (ex_nd1))), ((hF359.1 19 rfl).trans ((hF7.1 19 rfl).trans (ex_sy1))), ((hF359.1 28 rfl).trans ((hF7.1 28 rfl).trans (ex_na1))), ((hF359.1 29 rfl).trans ((hF7.1 29 rfl).trans (ex_vi1))), (congrFun ((hF359.2 3 rfl).trans (hF7.2 3 rfl)) _).trans (ex_lf1), ec369, by omega, by omega, by omega, by omega, by omega, by omega, by omega, by omega, by omega, by omega, by first | exact Or.inl (⟨by omega, by omega⟩)⟩
      · have _q := h346
        exact absurd h346 (by omega)
set_option maxRecDepth 20000 in
set_option maxHeartbeats 4000000 in
theorem c_readIf_w {X : jX} {k : Nat} (hP : RPw X k) {dd : Nat} {Vs : Nat → Prop} {sb pb : Int} (hvb : VB Vs sb) {c0 c1 : jC} {G : Nat → Int} {A : Nat → Nat → Int} {T : jH} {lv : Int} {ln li at0 fk nd sy na vi le op0 tk0 ec : Int} (hd : 8 * k + 82 ≤ dd) (hW : Wk G A) (e_ln : G 9 = ln) (e_li : G 3 = li) (e_at0 : G 10 = at0) (e_fk : G 16 = fk) (e_nd : G 31 = nd) (e_sy : G 19 = sy) (e_na : G 28 = na) (e_vi : G 29 = vi) (e_le : A 4 (ln).toNat = le) (e_op0 : G 15 = op0) (e_tk0 : G 11 = tk0) (e_ec : ecn A (G 31) = ec) (i_LT : LT G A) (i_SV : SV Vs sb G A) (i_PQ : PQ Vs sb pb G A) (h_lv : (-2147483648 : Int) ≤ lv ∧ lv ≤ 2147483647) (p_0 : 0 ≤ lv ∧ lv ≤ 15) (p_1 : 18 - lv ≤ ((k + 1 : Nat) : Int)) (p_2 : fk = 0) (p_3 : ln < li) (p_4 : at0 ≤ le) (p_5 : op0 = 0) (p_6 : nd ≤ 2 * at0 - tz tk0 + 30) (p_7 : sy ≤ na + 2) (p_8 : vi ≤ sy) (p_9 : sb = sy) (p_10 : 1 ≤ tk0) : wk X dd 301 [.ref 66, .int (i32 lv)] (rV c0 c1 G A T) (fun o V' => ∃ (G' : Nat → Int) (A' : Nat → Nat → Int) (r : Int) (ln2 : Int) (at2 : Int) (fk2 : Int) (nd2 : Int) (sy2 : Int) (na2 : Int) (vi2 : Int) (lf2 : Int) (ec2 : Int), V' = rV c0 c1 G' A' T ∧ o = .inl (some (.int (i32 r))) ∧ Wk G' A' ∧ Fr [9, 10, 11, 12, 13, 14, 15, 16, 17, 18, 19, 28, 29, 31] [6, 7, 8, 9, 10, 11, 12, 14, 15, 16, 17, 18, 19, 20, 21, 22, 23, 24, 28] G A G' A' ∧ Pf nd A A' ∧ Fx sr (sy) A A' ∧ Fx [14] (vi) A A' ∧ ((-2147483648 : Int) ≤ r ∧ r ≤ 2147483647) ∧ G' 9 = ln2 ∧ G' 10 = at2 ∧ G' 16 = fk2 ∧ G' 31 = nd2 ∧ G' 19 = sy2 ∧ G' 28 = na2 ∧ G' 29 = vi2 ∧ A' 3 (ln2).toNat = lf2 ∧ ecn A' (G' 31) = ec2 ∧ (at0 ≤ at2) ∧ (nd ≤ nd2) ∧ (sy ≤ sy2) ∧ (sy2 ≤ na2 + 2) ∧ (vi ≤ vi2) ∧ (vi2 ≤ vi + 1) ∧ (0 ≤ r) ∧ (r ≤ 6999) ∧ (ln ≤ ln2) ∧ (ln2 ≤ li) ∧ (((1 ≤ fk2) ∧ (nd2 - nd ≤ 2 * at2 - (2 * at0 - tz tk0) + 14)) ∨ ((fk2 = 0) ∧ (vi2 = vi) ∧ (ln < ln2) ∧ (nd2 - nd ≤ 2 * at2 - (2 * at0 - tz tk0)) ∧ (at2 < lf2 ∨ li ≤ ln2) ∧ (nd ≤ r) ∧ (r < nd2) ∧ (wSt A' (sy2) pb (wP A' (sy2) pb (k)) (Vs) (r) (nd) (nd2) (sy) (sy2)) ∧ (NX A' (r)) ∧ (nd2 - nd + 5 * (ec2 - ec) ≤ 2 * at2 - (2 * at0 - tz tk0)) ∧ (nd + 5 * ec ≤ r)))) := by
  obtain ⟨d, rfl⟩ : ∃ d, dd = d + 1 := ⟨dd - 1, by omega⟩
  refine wk_of (e := jm301) rfl (Nat.le_of_ble_eq_true rfl) ?_
  show wj X d jm301 (0, [(0, .ref 66), (1, .int (i32 (lv)))], [], rV c0 c1 G A T) _
  have hF0 : Fr [9, 10, 11, 12, 13, 14, 15, 16, 17, 18, 19, 28, 29, 31] [6, 7, 8, 9, 10, 11, 12, 14, 15, 16, 17, 18, 19, 20, 21, 22, 23, 24, 28] G A G A := Fr_rf
  have hP0 : Pf nd A A := Pf_rf
  have hS0 : Fx sr (sy) A A := Fx_rf
  have hV0 : Fx [14] (vi) A A := Fx_rf
  have b_ln : (0 : Int) ≤ ln ∧ ln ≤ 3000 := e_ln ▸ hW.1 9
  have b_li : (0 : Int) ≤ li ∧ li ≤ 3000 := e_li ▸ hW.1 3
  have b_at0 : (0 : Int) ≤ at0 ∧ at0 ≤ 3002 := e_at0 ▸ hW.1 10
  have b_fk : (0 : Int) ≤ fk ∧ fk ≤ 6 := e_fk ▸ hW.1 16
  have b_nd : (0 : Int) ≤ nd ∧ nd ≤ 6999 := e_nd ▸ hW.1 31
  have b_sy : (0 : Int) ≤ sy ∧ sy ≤ 202 := e_sy ▸ hW.1 19
  have b_na : (0 : Int) ≤ na ∧ na ≤ 200 := e_na ▸ hW.1 28
  have b_vi : (0 : Int) ≤ vi ∧ vi ≤ 202 := e_vi ▸ hW.1 29
  have b_le : (0 : Int) ≤ le ∧ le ≤ 3000 := e_le ▸ hW.2 4 _
  have b_op0 : (-2147483648 : Int) ≤ op0 ∧ op0 ≤ 2147483647 := e_op0 ▸ hW.1 15
  have z_tk0 := tz_f tk0
  have b_tk0 : (0 : Int) ≤ tk0 ∧ tk0 ≤ 5 := e_tk0 ▸ hW.1 11
  refine jx_ld (pc' := 1) (l' := [(0, .ref 66), (1, .int (i32 (lv)))]) (st' := [.ref 66]) rfl (jl_aloadn rfl) ?_
  refine jx_ar (pc' := 3) (st' := [.int (i32 (30)), .ref 66]) rfl rfl rfl rfl ?_
  refine jx_ar (pc' := 4) (st' := [.int (i32 (0)), .int (i32 (30)), .ref 66]) rfl rfl rfl rfl ?_
  refine jx_ar (pc' := 5) (st' := [.int (i32 (0)), .int (i32 (0)), .int (i32 (30)), .ref 66]) rfl rfl rfl rfl ?_
  refine jx_ar (pc' := 6) (st' := [.int (i32 (0)), .int (i32 (0)), .int (i32 (0)), .int (i32 (30)), .ref 66]) rfl rfl rfl rfl ?_
  refine jx_ar (pc' := 7) (st' := [.int (i32 (0)), .int (i32 (0)), .int (i32 (0)), .int (i32 (0)), .int (i32 (30)), .ref 66]) rfl rfl rfl rfl ?_
  refine jx_vr (pc' := 10) (as := [.int (i32 (30)), .int (i32 (0)), .int (i32 (0)), .int (i32 (0)), .int (i32 (0))]) (st := []) rfl rfl rfl rfl ⟨rfl, rfl, Nat.le_of_ble_eq_true rfl⟩ rfl rfl (c_node_o (dd := d) (hd := by omega) (hW := hW) (kind := 30) (a := 0) (b := 0) (c := 0) (e := 0) (nd := nd) (e_nd := show G 31 = nd from (e_nd)) (ec := ec) (e_ec := show ecn A (G 31) = ec from e_ec)  (h_kind := ⟨(by decide), (by decide)⟩) (h_a := ⟨(by decide), (by decide)⟩) (h_b := ⟨(by decide), (by decide)⟩) (h_c := ⟨(by decide), (by decide)⟩) (h_e := ⟨(by decide), (by decide)⟩)  (p_0 := by omega) (p_1 := by omega) (p_2 := by omega)) (fun o V' hq => ?_)
  obtain ⟨G377, A378, nd2_379, ec2_380, rfl, rfl, hW381, hF382, hQ383, e384, e385, p386, p387, p388, -⟩ := hq
  have hF390 := Fr_tr hF0 hF382 (Fr_sub (by decide)) (Fr_sub (by decide))
  have hP391 := Pf_tr hP0 hQ383 (by omega)
  have hS392 := Fx_f hS0 hF382 (by decide)
  have hV393 := Fx_f hV0 hF382 (by decide)
  have bnd2_379 : (0 : Int) ≤ nd2_379 ∧ nd2_379 ≤ 6999 := e384 ▸ hW381.1 31
  refine .inr ⟨_, rfl, ?_⟩
  refine jx_ld (pc' := 11) (l' := jSto1 [(0, .ref 66), (1, .int (i32 (lv)))] 2 (.int (i32 (nd)))) (st' := []) rfl rfl ?_
  obtain ⟨L394, eL394⟩ : ∃ q, q = jSto1 [(0, .ref 66), (1, .int (i32 (lv)))] 2 (.int (i32 (nd))) := ⟨_, rfl⟩
  rw [← eL394]
  have gL394_0 : jGet L394 0 = some (.ref 66) := eL394 ▸ jg_ne (by decide) (rfl : jGet [(0, .ref 66), (1, .int (i32 (lv)))] 0 = some (.ref 66)) rfl
  have gL394_1 : jGet L394 1 = some (.int (i32 (lv))) := eL394 ▸ jg_ne (by decide) (rfl : jGet [(0, .ref 66), (1, .int (i32 (lv)))] 1 = some (.int (i32 (lv)))) rfl
  have gL394_2 : jGet L394 2 = some (.int (i32 (nd))) := eL394 ▸ jg_eq
  refine jx_ld (pc' := 12) (l' := L394) (st' := [.ref 66]) rfl (jl_aloadn gL394_0) ?_
  refine jx_vr (pc' := 15) (as := []) (st := []) rfl rfl rfl rfl ⟨rfl, rfl, Nat.le_of_ble_eq_true rfl⟩ rfl rfl (c_next (dd := d) (hd := by omega) (hW := hW381)  (ln := ln) (e_ln := show G377 9 = ln from ((hF382.1 9 rfl).trans (e_ln))) (le := le) (e_le := show A378 4 (ln).toNat = le from (congrFun (hF382.2 4 rfl) _).trans (e_le)) (at0 := at0) (e_at0 := show G377 10 = at0 from ((hF382.1 10 rfl).trans (e_at0)))    (p_0 := by omega)) (fun o V' hq => ?_)
  obtain ⟨G395, A396, at2_397, tk2_398, rfl, rfl, hW399, hF400, e401, e402, p403, p404, p405, -⟩ := hq
  have hF407 := Fr_tr hF390 hF400 (Fr_sub (by decide)) (Fr_sub (by decide))
  have hP408 := Pf_f hP391 hF400 (by decide)
  have hS409 := Fx_f hS392 hF400 (by decide)
  have hV410 := Fx_f hV393 hF400 (by decide)
  have sf411 : ND A396 (nd) (30) (0) (0) (0) (0) (0) (0) := ND_ag (by omega) (Ag_fr hF400 (by decide)) p388
  have ec412 : ecn A396 (G395 31) = ec2_380 := (ecn_f (hF400.2 15 rfl) (hF400.1 31 rfl)).trans e385
  have bat2_397 : (0 : Int) ≤ at2_397 ∧ at2_397 ≤ 3002 := e401 ▸ hW399.1 10
  have ztk2_398 := tz_b tk2_398
  have btk2_398 : (0 : Int) ≤ tk2_398 ∧ tk2_398 ≤ 5 := e402 ▸ hW399.1 11
  refine .inl ⟨rfl, ?_⟩
  refine jx_ld (pc' := 16) (l' := L394) (st' := [.ref 66]) rfl (jl_aloadn gL394_0) ?_
  refine jx_vr (pc' := 19) (as := []) (st := []) rfl rfl rfl rfl ⟨rfl, rfl, Nat.le_of_ble_eq_true rfl⟩ rfl rfl (c_endLine (dd := d) (hd := by omega) (hW := hW399)  (ln := ln) (e_ln := show G395 9 = ln from ((hF400.1 9 rfl).trans ((hF382.1 9 rfl).trans (e_ln)))) (li := li) (e_li := show G395 3 = li from ((hF400.1 3 rfl).trans ((hF382.1 3 rfl).trans (e_li)))) (fk := fk) (e_fk := show G395 16 = fk from ((hF400.1 16 rfl).trans ((hF382.1 16 rfl).trans (e_fk)))) (tk0 := tk2_398) (e_tk0 := show G395 11 = tk2_398 from (e402))    (p_0 := by omega)) (fun o V' hq => ?_)
  obtain ⟨G413, A414, ln2_415, fk2_416, rfl, rfl, hW417, hF418, e419, e420, q421⟩ := hq
  have hF422 := Fr_tr hF407 hF418 (Fr_sub (by decide)) (Fr_sub (by decide))
  have hP423 := Pf_f hP408 hF418 (by decide)
  have hS424 := Fx_f hS409 hF418 (by decide)
  have hV425 := Fx_f hV410 hF418 (by decide)
  have sf426 : ND A414 (nd) (30) (0) (0) (0) (0) (0) (0) := ND_ag (by omega) (Ag_fr hF418 (by decide)) sf411
  have ec427 : ecn A414 (G413 31) = ec2_380 := (ecn_f (hF418.2 15 rfl) (hF418.1 31 rfl)).trans ec412
  have bln2_415 : (0 : Int) ≤ ln2_415 ∧ ln2_415 ≤ 3000 := e419 ▸ hW417.1 9
  have bfk2_416 : (0 : Int) ≤ fk2_416 ∧ fk2_416 ≤ 6 := e420 ▸ hW417.1 16
  refine .inl ⟨rfl, ?_⟩
  rcases q421 with ⟨a428, a429, a430, a431, a432⟩ | ⟨a433, a434⟩
  · have _q : True := trivial
    have b435 : (0 : Int) ≤ A 3 (ln2_415).toNat ∧ A 3 (ln2_415).toNat ≤ 3000 := hW.2 3 _
    have lt436 : ln2_415 < li → le < A 3 (ln2_415).toNat := fun hh => LT_nx (LT_ext (((hF418.1 3 rfl).trans ((hF400.1 3 rfl).trans (hF382.1 3 rfl)))) (((hF418.2 3 rfl).trans ((hF400.2 3 rfl).trans (hF382.2 3 rfl)))) (((hF418.2 4 rfl).trans ((hF400.2 4 rfl).trans (hF382.2 4 rfl)))) i_LT) (show G413 3 = li from ((hF418.1 3 rfl).trans ((hF400.1 3 rfl).trans ((hF382.1 3 rfl).trans (e_li))))) (show A414 4 (ln).toNat = le from (congrFun ((hF418.2 4 rfl).trans ((hF400.2 4 rfl).trans (hF382.2 4 rfl))) _).trans (e_le)) (show A414 3 (ln2_415).toNat = A 3 (ln2_415).toNat from (congrFun ((hF418.2 3 rfl).trans ((hF400.2 3 rfl).trans (hF382.2 3 rfl))) _)) (show ln2_415 = ln + 1 by omega) (by omega) hh
    refine jx_ar (pc' := 20) (st' := [.int (i32 (0))]) rfl rfl rfl rfl ?_
    refine jx_ld (pc' := 21) (l' := jSto1 L394 3 (.int (i32 (0)))) (st' := []) rfl rfl ?_
    obtain ⟨L437, eL437⟩ : ∃ q, q = jSto1 L394 3 (.int (i32 (0))) := ⟨_, rfl⟩
    rw [← eL437]
    have gL437_0 : jGet L437 0 = some (.ref 66) := eL437 ▸ jg_ne (by decide) gL394_0 rfl
    have gL437_1 : jGet L437 1 = some (.int (i32 (lv))) := eL437 ▸ jg_ne (by decide) gL394_1 rfl
    have gL437_2 : jGet L437 2 = some (.int (i32 (nd))) := eL437 ▸ jg_ne (by decide) gL394_2 rfl
    have gL437_3 : jGet L437 3 = some (.int (i32 (0))) := eL437 ▸ jg_eq
    exact c_readIf_w_at_21 (X := X) (k := k) (hP := hP) (d := d) (Vs := Vs) (sb := sb) (pb := pb) (hvb := hvb) (c0 := c0) (c1 := c1) (G := G) (A := A) (T := T) (lv := lv) (ln := ln) (li := li) (at0 := at0) (fk := fk) (nd := nd) (sy := sy) (na := na) (vi := vi) (le := le) (op0 := op0) (tk0 := tk0) (ec := ec) (hd := hd) (hW := hW) (e_ln := e_ln) (e_li := e_li) (e_at0 := e_at0) (e_fk := e_fk) (e_nd := e_nd) (e_sy := e_sy) (e_na := e_na) (e_vi := e_vi) (e_le := e_le) (e_op0 := e_op0) (e_tk0 := e_tk0) (e_ec := e_ec) (i_LT := i_LT) (i_SV := i_SV) (i_PQ := i_PQ) (h_lv := h_lv) (p_0 := p_0) (p_1 := p_1) (p_2 := p_2) (p_3 := p_3) (p_4 := p_4) (p_5 := p_5) (p_6 := p_6) (p_7 := p_7) (p_8 := p_8) (p_9 := p_9) (p_10 := p_10) _ L437 G413 A414 (nd) (0) (ln2_415) (at2_397) (fk2_416) (nd2_379) (sy) (na) (vi) (A 3 (ln2_415).toNat) (ec2_380) rfl gL437_0 gL437_1 gL437_2 gL437_3 hW417 hF422 hP423 hS424 hV425 ((e419)) (((hF418.1 10 rfl).trans (e401))) ((e420)) (((hF418.1 31 rfl).trans ((hF400.1 31 rfl).trans (e384)))) (((hF418.1 19 rfl).trans ((hF400.1 19 rfl).trans ((hF382.1 19 rfl).trans (e_sy))))) (((hF418.1 28 rfl).trans ((hF400.1 28 rfl).trans ((hF382.1 28 rfl).trans (e_na))))) (((hF418.1 29 rfl).trans ((hF400.1 29 rfl).trans ((hF382.1 29 rfl).trans (e_vi))))) ((congrFun ((hF418.2 3 rfl).trans ((hF400.2 3 rfl).trans (hF382.2 3 rfl))) _)) (ec427) (by omega) (by omega) (by omega) (by omega) (by omega) (by omega) (by omega) (by omega) (by omega) (by omega) (by omega) (by omega) (by omega) (by omega) (by omega) (by omega) ((ND_sf sf426)) ((CI_nil (ND_f0 sf426) (by omega) (by omega))) (by omega) (by omega)
  · have _q : True := trivial
    refine jx_ar (pc' := 20) (st' := [.int (i32 (0))]) rfl rfl rfl rfl ?_
    refine jx_ld (pc' := 21) (l' := jSto1 L394 3 (.int (i32 (0)))) (st' := []) rfl rfl ?_
    obtain ⟨L438, eL438⟩ : ∃ q, q = jSto1 L394 3 (.int (i32 (0))) := ⟨_, rfl⟩
    rw [← eL438]
    have gL438_0 : jGet L438 0 = some (.ref 66) := eL438 ▸ jg_ne (by decide) gL394_0 rfl
    have gL438_1 : jGet L438 1 = some (.int (i32 (lv))) := eL438 ▸ jg_ne (by decide) gL394_1 rfl
    have gL438_2 : jGet L438 2 = some (.int (i32 (nd))) := eL438 ▸ jg_ne (by decide) gL394_2 rfl
    have gL438_3 : jGet L438 3 = some (.int (i32 (0))) := eL438 ▸ jg_eq
    refine jx_ld (pc' := 22) (l' := L438) (st' := [.ref 66]) rfl (jl_aloadn gL438_0) ?_
    refine jx_ld (pc' := 23) (l' := L438) (st' := [.int (i32 (lv)), .ref 66]) rfl (jl_iloadn gL438_1) ?_
    have b439 : (-1 : Int) ≤ A 5 (ln2_415).toNat ∧ A 5 (ln2_415).toNat ≤ 15 := hW.2 5 _
    refine jx_vr (pc' := 26) (as := [.int (i32 (lv))]) (st := []) rfl rfl rfl rfl ⟨rfl, rfl, Nat.le_of_ble_eq_true rfl⟩ rfl rfl (c_isBelow (dd := d) (hd := by omega) (hW := hW417) (lv := lv) (ln := ln2_415) (e_ln := show G413 9 = ln2_415 from (e419)) (li := li) (e_li := show G413 3 = li from ((hF418.1 3 rfl).trans ((hF400.1 3 rfl).trans ((hF382.1 3 rfl).trans (e_li))))) (fk := fk2_416) (e_fk := show G413 16 = fk2_416 from (e420)) (ll := A 5 (ln2_415).toNat) (e_ll := show A414 5 (ln2_415).toNat = A 5 (ln2_415).toNat from (congrFun ((hF418.2 5 rfl).trans ((hF400.2 5 rfl).trans (hF382.2 5 rfl))) _))  (h_lv := ⟨(Int.le_trans (by decide : (-2147483648 : Int) ≤ -2147483648) h_lv.1), (Int.le_trans h_lv.2 (by decide : (2147483647 : Int) ≤ 2147483647))⟩)  (p_0 := by omega)) (fun o V' hq => ?_)
    obtain ⟨G440, A441, r442, fk2_443, rfl, rfl, hW444, hF445, b446, e447, q448⟩ := hq
    have hF449 := Fr_tr hF422 hF445 (Fr_sub (by decide)) (Fr_sub (by decide))
    have hP450 := Pf_f hP423 hF445 (by decide)
    have hS451 := Fx_f hS424 hF445 (by decide)
    have hV452 := Fx_f hV425 hF445 (by decide)
    have sf453 : ND A441 (nd) (30) (0) (0) (0) (0) (0) (0) := ND_ag (by omega) (Ag_fr hF445 (by decide)) sf426
    have ec454 : ecn A441 (G440 31) = ec2_380 := (ecn_f (hF445.2 15 rfl) (hF445.1 31 rfl)).trans ec427
    have bfk2_443 : (0 : Int) ≤ fk2_443 ∧ fk2_443 ≤ 6 := e447 ▸ hW444.1 16
    refine .inr ⟨_, rfl, ?_⟩
    rcases q448 with ⟨rfl, a455, a456, a457, a458⟩ | ⟨rfl, a459⟩ | ⟨rfl, a460, a461, a462⟩
    · have _q : True := trivial
      exfalso
      omega
    · have _q : True := trivial
      refine jx_if_eq (pc' := 29) (tg := 112) rfl rfl rfl (by decide) (by decide) (fun h463 => ?_) (fun h463 => ?_)
      · have _q := h463
        refine jx_ld (pc' := 113) (l' := L438) (st' := [.ref 66]) rfl (jl_aloadn gL438_0) ?_
        refine jx_vr (pc' := 116) (as := []) (st := []) rfl rfl rfl rfl ⟨rfl, rfl, Nat.le_of_ble_eq_true rfl⟩ rfl rfl (c_bad (dd := d) (hd := by omega) (hW := hW444)  (fk := fk2_443) (e_fk := show G440 16 = fk2_443 from (e447))    ) (fun o V' hq => ?_)
        obtain ⟨r464, rfl, rfl, b465, q466⟩ := hq
        refine .inr ⟨_, rfl, ?_⟩
        rcases q466 with ⟨rfl, a467⟩ | ⟨rfl, a468⟩
        · have _q : True := trivial
          refine jx_if_ne (pc' := 119) (tg := 131) rfl rfl rfl (by decide) (by decide) (fun h469 => ?_) (fun h469 => ?_)
          · have _q := h469
            refine jx_ld (pc' := 132) (l' := L438) (st' := [.int (i32 (nd))]) rfl (jl_iloadn gL438_2) ?_
            refine jx_rt (v := some (.int (i32 (nd)))) rfl rfl rfl rfl rfl rfl ?_
            exact ⟨_, _, _, ln2_415, at2_397, fk2_443, nd2_379, sy, na, vi, A 3 (ln2_415).toNat, ec2_380, rfl, rfl, hW444, hF449, hP450, hS451, hV452, by omega, ((hF445.1 9 rfl).trans (e419)), ((hF445.1 10 rfl).trans ((hF418.1 10 rfl).trans (e401))), (e447), ((hF445.1 31 rfl).trans ((hF418.1 31 rfl).trans ((hF400.1 31 rfl).trans (e384)))), ((hF445.1 19 rfl).trans ((hF418.1 19 rfl).trans ((hF400.1 19 rfl).trans ((hF382.1 19 rfl).trans (e_sy))))), ((hF445.1 28 rfl).trans ((hF418.1 28 rfl).trans ((hF400.1 28 rfl).trans ((hF382.1 28 rfl).trans (e_na))))), ((hF445.1 29 rfl).trans ((hF418.1 29 rfl).trans ((hF400.1 29 rfl).trans ((hF382.1 29 rfl).trans (e_vi))))), (congrFun ((hF445.2 3 rfl).trans ((hF418.2 3 rfl).trans ((hF400.2 3 rfl).trans (hF382.2 3 rfl)))) _), ec454, by omega, by omega, by omega, by omega, by omega, by omega, by omega, by omega, by omega, by omega, by first | exact Or.inl (⟨by omega, by omega⟩)⟩
          · have _q := h469
            exact absurd h469 (by omega)
        · have _q : True := trivial
          exfalso
          omega
      · have _q := h463
        exact absurd h463 (by omega)
    · have _q : True := trivial
      exfalso
      omega
