set_option maxRecDepth 20000 in
set_option maxHeartbeats 4000000 in
theorem c_readIf_w_at_21 {X : jX} {k : Nat} (hP : RPw X k) {d : Nat} {Vs : Nat → Prop} {sb pb : Int} (hvb : VB Vs sb) {c0 c1 : jC} {G : Nat → Int} {A : Nat → Nat → Int} {T : jH} {lv : Int} {ln li at0 fk nd sy na vi le op0 tk0 ec : Int} (hd : 8 * k + 82 ≤ d + 1) (hW : Wk G A) (e_ln : G 9 = ln) (e_li : G 3 = li) (e_at0 : G 10 = at0) (e_fk : G 16 = fk) (e_nd : G 31 = nd) (e_sy : G 19 = sy) (e_na : G 28 = na) (e_vi : G 29 = vi) (e_le : A 4 (ln).toNat = le) (e_op0 : G 15 = op0) (e_tk0 : G 11 = tk0) (e_ec : ecn A (G 31) = ec) (i_LT : LT G A) (i_SV : SV Vs sb G A) (i_PQ : PQ Vs sb pb G A) (h_lv : (-2147483648 : Int) ≤ lv ∧ lv ≤ 2147483647) (p_0 : 0 ≤ lv ∧ lv ≤ 15) (p_1 : 18 - lv ≤ ((k + 1 : Nat) : Int)) (p_2 : fk = 0) (p_3 : ln < li) (p_4 : at0 ≤ le) (p_5 : op0 = 0) (p_6 : nd ≤ 2 * at0 - tz tk0 + 30) (p_7 : sy ≤ na + 2) (p_8 : vi ≤ sy) (p_9 : sb = sy) (p_10 : 1 ≤ tk0) : ∀ (m : Nat) (L : jL) (Gx : Nat → Int) (Ax : Nat → Nat → Int) (n last ln1 at1 fk1 nd1 sy1 na1 vi1 lf1 ec1 : Int), (li - ln1).toNat = m → jGet L 0 = some (.ref 66) → jGet L 1 = some (.int (i32 (lv))) → jGet L 2 = some (.int (i32 n)) → jGet L 3 = some (.int (i32 last)) → Wk Gx Ax → Fr [9, 10, 11, 12, 13, 14, 15, 16, 17, 18, 19, 28, 29, 31] [6, 7, 8, 9, 10, 11, 12, 14, 15, 16, 17, 18, 19, 20, 21, 22, 23, 24, 28] G A Gx Ax → Pf nd A Ax → Fx sr (sy) A Ax → Fx [14] (vi) A Ax → Gx 9 = ln1 → Gx 10 = at1 → Gx 16 = fk1 → Gx 31 = nd1 → Gx 19 = sy1 → Gx 28 = na1 → Gx 29 = vi1 → Ax 3 (ln1).toNat = lf1 → ecn Ax (Gx 31) = ec1 → ((-2147483648 : Int) ≤ n ∧ n ≤ 2147483647) → ((-2147483648 : Int) ≤ last ∧ last ≤ 2147483647) → (fk1 = 0) → (at0 ≤ at1) → (nd ≤ n ∧ n ≤ 6998 ∧ n < nd1) → (sy ≤ sy1) → (sy1 ≤ na1 + 2) → (vi1 = vi) → (ln < ln1) → (ln1 ≤ li) → (nd1 - nd ≤ 2 * at1 - (2 * at0 - tz tk0)) → (at1 < lf1 ∨ li ≤ ln1) → (n = nd) → (0 ≤ last ∧ last ≤ 6998) → (last = 0 ∨ n < last) → (last < nd1) → (ND Ax (n) (30) (0) (0) (0) (0) (Ax 21 (n).toNat) (0)) → (CI 1 Ax (sy1) pb (k) (Vs) (n) (last) (n + 1) (nd1) (sy) (sy1)) → (nd1 - nd + 5 * (ec1 - ec) ≤ 2 * at1 - (2 * at0 - tz tk0)) → (NdM Ax (nd) (nd1) (sy)) → wj X d jm301 (21, L, [], rV c0 c1 Gx Ax T) (fun o V' => ∃ (G' : Nat → Int) (A' : Nat → Nat → Int) (r : Int) (ln2 : Int) (at2 : Int) (fk2 : Int) (nd2 : Int) (sy2 : Int) (na2 : Int) (vi2 : Int) (lf2 : Int) (ec2 : Int), V' = rV c0 c1 G' A' T ∧ o = .inl (some (.int (i32 r))) ∧ Wk G' A' ∧ Fr [9, 10, 11, 12, 13, 14, 15, 16, 17, 18, 19, 28, 29, 31] [6, 7, 8, 9, 10, 11, 12, 14, 15, 16, 17, 18, 19, 20, 21, 22, 23, 24, 28] G A G' A' ∧ Pf nd A A' ∧ Fx sr (sy) A A' ∧ Fx [14] (vi) A A' ∧ ((-2147483648 : Int) ≤ r ∧ r ≤ 2147483647) ∧ G' 9 = ln2 ∧ G' 10 = at2 ∧ G' 16 = fk2 ∧ G' 31 = nd2 ∧ G' 19 = sy2 ∧ G' 28 = na2 ∧ G' 29 = vi2 ∧ A' 3 (ln2).toNat = lf2 ∧ ecn A' (G' 31) = ec2 ∧ (at0 ≤ at2) ∧ (nd ≤ nd2) ∧ (sy ≤ sy2) ∧ (sy2 ≤ na2 + 2) ∧ (vi ≤ vi2) ∧ (vi2 ≤ vi + 1) ∧ (0 ≤ r) ∧ (r ≤ 6999) ∧ (ln ≤ ln2) ∧ (ln2 ≤ li) ∧ (((1 ≤ fk2) ∧ (nd2 - nd ≤ 2 * at2 - (2 * at0 - tz tk0) + 14)) ∨ ((fk2 = 0) ∧ (vi2 = vi) ∧ (ln < ln2) ∧ (nd2 - nd ≤ 2 * at2 - (2 * at0 - tz tk0)) ∧ (at2 < lf2 ∨ li ≤ ln2) ∧ (nd ≤ r) ∧ (r < nd2) ∧ (wSt A' (sy2) pb (wP A' (sy2) pb (k)) (Vs) (r) (nd) (nd2) (sy) (sy2)) ∧ (NX A' (r)) ∧ (nd2 - nd + 5 * (ec2 - ec) ≤ 2 * at2 - (2 * at0 - tz tk0)) ∧ (NdM A' (nd) (nd2) (sy))))) := by
  have hF0 : Fr [9, 10, 11, 12, 13, 14, 15, 16, 17, 18, 19, 28, 29, 31] [6, 7, 8, 9, 10, 11, 12, 14, 15, 16, 17, 18, 19, 20, 21, 22, 23, 24, 28] G A G A := Fr_rf
  have hP0 : Pf nd A A := Pf_rf
  have hS0 : Fx sr (sy) A A := Fx_rf
  have hV0 : Fx [14] (vi) A A := Fx_rf
  have b_ln : (0 : Int) ≤ ln ∧ ln ≤ 3000 := e_ln ▸ hW.1 9
  have b_li : (0 : Int) ≤ li ∧ li ≤ 3000 := e_li ▸ hW.1 3
  have b_at0 : (0 : Int) ≤ at0 ∧ at0 ≤ 3002 := e_at0 ▸ hW.1 10
  have b_fk : (0 : Int) ≤ fk ∧ fk ≤ 6 := e_fk ▸ hW.1 16
  have b_nd : (0 : Int) ≤ nd ∧ nd ≤ 6999 := e_nd ▸ hW.1 31
  have b_sy : (0 : Int) ≤ sy ∧ sy ≤ 202 := e_sy ▸ hW.1 19
  have b_na : (0 : Int) ≤ na ∧ na ≤ 200 := e_na ▸ hW.1 28
  have b_vi : (0 : Int) ≤ vi ∧ vi ≤ 202 := e_vi ▸ hW.1 29
  have b_le : (0 : Int) ≤ le ∧ le ≤ 3000 := e_le ▸ hW.2 4 _
  have b_op0 : (-2147483648 : Int) ≤ op0 ∧ op0 ≤ 2147483647 := e_op0 ▸ hW.1 15
  have z_tk0 := tz_f tk0
  have b_tk0 : (0 : Int) ≤ tk0 ∧ tk0 ≤ 5 := e_tk0 ▸ hW.1 11
  intro m
  induction m using Nat.strongRecOn with
  | ind m ih21 =>
    intro L Gx Ax n last ln1 at1 fk1 nd1 sy1 na1 vi1 lf1 ec1 hm gL_0 gL_1 gL_2 gL_3 hWx hFx hPx hSx hVx ex_ln1 ex_at1 ex_fk1 ex_nd1 ex_sy1 ex_na1 ex_vi1 ex_lf1 ex_ec1 rx_n rx_last iv_0 iv_1 iv_2 iv_3 iv_4 iv_5 iv_6 iv_7 iv_8 iv_9 iv_10 iv_11 iv_12 iv_13 iv_14 iv_15 iv_16 iv_17
    have b_ln1 : (0 : Int) ≤ ln1 ∧ ln1 ≤ 3000 := ex_ln1 ▸ hWx.1 9
    have b_at1 : (0 : Int) ≤ at1 ∧ at1 ≤ 3002 := ex_at1 ▸ hWx.1 10
    have b_fk1 : (0 : Int) ≤ fk1 ∧ fk1 ≤ 6 := ex_fk1 ▸ hWx.1 16
    have b_nd1 : (0 : Int) ≤ nd1 ∧ nd1 ≤ 6999 := ex_nd1 ▸ hWx.1 31
    have b_sy1 : (0 : Int) ≤ sy1 ∧ sy1 ≤ 202 := ex_sy1 ▸ hWx.1 19
    have b_na1 : (0 : Int) ≤ na1 ∧ na1 ≤ 200 := ex_na1 ▸ hWx.1 28
    have b_vi1 : (0 : Int) ≤ vi1 ∧ vi1 ≤ 202 := ex_vi1 ▸ hWx.1 29
    refine jx_ld (pc' := 22) (l' := L) (st' := [.ref 66]) rfl (jl_aloadn gL_0) ?_
    refine jx_ld (pc' := 23) (l' := L) (st' := [.int (i32 (lv)), .ref 66]) rfl (jl_iloadn gL_1) ?_
    have b1 : (-1 : Int) ≤ A 5 (ln1).toNat ∧ A 5 (ln1).toNat ≤ 15 := hW.2 5 _
    refine jx_vr (pc' := 26) (as := [.int (i32 (lv))]) (st := []) rfl rfl rfl rfl ⟨rfl, rfl, Nat.le_of_ble_eq_true rfl⟩ rfl rfl (c_isBelow (dd := d) (hd := by omega) (hW := hWx) (lv := lv) (ln := ln1) (e_ln := show Gx 9 = ln1 from (ex_ln1)) (li := li) (e_li := show Gx 3 = li from ((hFx.1 3 rfl).trans (e_li))) (fk := fk1) (e_fk := show Gx 16 = fk1 from (ex_fk1)) (ll := A 5 (ln1).toNat) (e_ll := show Ax 5 (ln1).toNat = A 5 (ln1).toNat from (congrFun (hFx.2 5 rfl) _))  (h_lv := ⟨(Int.le_trans (by decide : (-2147483648 : Int) ≤ -2147483648) h_lv.1), (Int.le_trans h_lv.2 (by decide : (2147483647 : Int) ≤ 2147483647))⟩)  (p_0 := by omega)) (fun o V' hq => ?_)
    obtain ⟨G2, A3, r4, fk2_5, rfl, rfl, hW6, hF7, b8, e9, q10⟩ := hq
    have hF11 := Fr_tr hFx hF7 (Fr_sub (by decide)) (Fr_sub (by decide))
    have hP12 := Pf_f hPx hF7 (by decide)
    have hS13 := Fx_f hSx hF7 (by decide)
    have hV14 := Fx_f hVx hF7 (by decide)
    have sf15 : ND A3 (n) (30) (0) (0) (0) (0) (Ax 21 (n).toNat) (0) := ND_ag (by omega) (Ag_fr hF7 (by decide)) iv_14
    have sf16 : CI 1 A3 (sy1) pb (k) (Vs) (n) (last) (n + 1) (nd1) (sy) (sy1) := CI_ag (by omega) (by omega) (Sg_fr hF7 (by decide)) (Qg_fr hF7 (by decide)) (Ag_fr hF7 (by decide)) (congrFun (hF7.2 21 rfl) _) iv_15
    have sf17 : NdM A3 (nd) (nd1) (sy) := NdM_f hF7 (by decide) iv_17
    have ec18 : ecn A3 (G2 31) = ec1 := (ecn_f (hF7.2 15 rfl) (hF7.1 31 rfl)).trans ex_ec1
    have bfk2_5 : (0 : Int) ≤ fk2_5 ∧ fk2_5 ≤ 6 := e9 ▸ hW6.1 16
    refine .inr ⟨_, rfl, ?_⟩
    rcases q10 with ⟨rfl, a19, a20, a21, a22⟩ | ⟨rfl, a23⟩ | ⟨rfl, a24, a25, a26⟩
    · have _q : True := trivial
      have b27 : (0 : Int) ≤ A 4 (ln1).toNat ∧ A 4 (ln1).toNat ≤ 3000 := hW.2 4 _
      have lt28 : lf1 < A 4 (ln1).toNat := LT_at (LT_ext (((hF7.1 3 rfl).trans (hFx.1 3 rfl))) (((hF7.2 3 rfl).trans (hFx.2 3 rfl))) (((hF7.2 4 rfl).trans (hFx.2 4 rfl))) i_LT) (show G2 3 = li from ((hF7.1 3 rfl).trans ((hFx.1 3 rfl).trans (e_li)))) (show A3 3 (ln1).toNat = lf1 from (congrFun (hF7.2 3 rfl) _).trans (ex_lf1)) (show A3 4 (ln1).toNat = A 4 (ln1).toNat from (congrFun ((hF7.2 4 rfl).trans (hFx.2 4 rfl)) _)) (by omega) (by omega)
      refine jx_if_eq (pc' := 29) (tg := 112) rfl rfl rfl (by decide) (by decide) (fun h29 => ?_) (fun h29 => ?_)
      · have _q := h29
        exact absurd h29 (by omega)
      · have _q := h29
        refine jx_ld (pc' := 30) (l' := L) (st' := [.ref 66]) rfl (jl_aloadn gL_0) ?_
        refine jx_vr (pc' := 33) (as := []) (st := []) rfl rfl rfl rfl ⟨rfl, rfl, Nat.le_of_ble_eq_true rfl⟩ rfl rfl (c_openLine (dd := d) (hd := by omega) (hW := hW6)  (ln := ln1) (e_ln := show G2 9 = ln1 from ((hF7.1 9 rfl).trans (ex_ln1))) (le := A 4 (ln1).toNat) (e_le := show A3 4 (ln1).toNat = A 4 (ln1).toNat from (congrFun ((hF7.2 4 rfl).trans (hFx.2 4 rfl)) _)) (lf := lf1) (e_lf := show A3 3 (ln1).toNat = lf1 from (congrFun (hF7.2 3 rfl) _).trans (ex_lf1))    (p_0 := by omega)) (fun o V' hq => ?_)
        obtain ⟨G30, A31, at2_32, tk2_33, op2_34, rfl, rfl, hW35, hF36, e37, e38, e39, p40, p41, p42, p43, -⟩ := hq
        have hF45 := Fr_tr hF11 hF36 (Fr_sub (by decide)) (Fr_sub (by decide))
        have hP46 := Pf_f hP12 hF36 (by decide)
        have hS47 := Fx_f hS13 hF36 (by decide)
        have hV48 := Fx_f hV14 hF36 (by decide)
        have sf49 : ND A31 (n) (30) (0) (0) (0) (0) (Ax 21 (n).toNat) (0) := ND_ag (by omega) (Ag_fr hF36 (by decide)) sf15
        have sf50 : CI 1 A31 (sy1) pb (k) (Vs) (n) (last) (n + 1) (nd1) (sy) (sy1) := CI_ag (by omega) (by omega) (Sg_fr hF36 (by decide)) (Qg_fr hF36 (by decide)) (Ag_fr hF36 (by decide)) (congrFun (hF36.2 21 rfl) _) sf16
        have sf51 : NdM A31 (nd) (nd1) (sy) := NdM_f hF36 (by decide) sf17
        have ec52 : ecn A31 (G30 31) = ec1 := (ecn_f (hF36.2 15 rfl) (hF36.1 31 rfl)).trans ec18
        have bat2_32 : (0 : Int) ≤ at2_32 ∧ at2_32 ≤ 3002 := e37 ▸ hW35.1 10
        have ztk2_33 := tz_b tk2_33
        have btk2_33 : (0 : Int) ≤ tk2_33 ∧ tk2_33 ≤ 5 := e38 ▸ hW35.1 11
        have bop2_34 : (-2147483648 : Int) ≤ op2_34 ∧ op2_34 ≤ 2147483647 := e39 ▸ hW35.1 15
        refine .inl ⟨rfl, ?_⟩
        have pz53 : lf1 + tz tk2_33 ≤ at2_32 := by omega
        refine jx_ld (pc' := 34) (l' := L) (st' := [.ref 66]) rfl (jl_aloadn gL_0) ?_
        refine jx_ar (pc' := 36) (st' := [.int (i32 (34)), .ref 66]) rfl rfl rfl rfl ?_
        refine jx_ar (pc' := 37) (st' := [.int (i32 (0)), .int (i32 (34)), .ref 66]) rfl rfl rfl rfl ?_
        refine jx_ar (pc' := 38) (st' := [.int (i32 (0)), .int (i32 (0)), .int (i32 (34)), .ref 66]) rfl rfl rfl rfl ?_
        refine jx_ar (pc' := 39) (st' := [.int (i32 (0)), .int (i32 (0)), .int (i32 (0)), .int (i32 (34)), .ref 66]) rfl rfl rfl rfl ?_
        refine jx_ar (pc' := 40) (st' := [.int (i32 (0)), .int (i32 (0)), .int (i32 (0)), .int (i32 (0)), .int (i32 (34)), .ref 66]) rfl rfl rfl rfl ?_
        refine jx_vr (pc' := 43) (as := [.int (i32 (34)), .int (i32 (0)), .int (i32 (0)), .int (i32 (0)), .int (i32 (0))]) (st := []) rfl rfl rfl rfl ⟨rfl, rfl, Nat.le_of_ble_eq_true rfl⟩ rfl rfl (c_node_o (dd := d) (hd := by omega) (hW := hW35) (kind := 34) (a := 0) (b := 0) (c := 0) (e := 0) (nd := nd1) (e_nd := show G30 31 = nd1 from ((hF36.1 31 rfl).trans ((hF7.1 31 rfl).trans (ex_nd1)))) (ec := ec1) (e_ec := show ecn A31 (G30 31) = ec1 from ec52) (sy := sy1) (e_sy := show G30 19 = sy1 from ((hF36.1 19 rfl).trans ((hF7.1 19 rfl).trans (ex_sy1))))  (h_kind := ⟨(by decide), (by decide)⟩) (h_a := ⟨(by decide), (by decide)⟩) (h_b := ⟨(by decide), (by decide)⟩) (h_c := ⟨(by decide), (by decide)⟩) (h_e := ⟨(by decide), (by decide)⟩)  (p_0 := by omega) (p_1 := by omega) (p_2 := by omega)) (fun o V' hq => ?_)
        obtain ⟨G54, A55, nd2_56, ec2_57, rfl, rfl, hW58, hF59, hQ60, e61, e62, p63, p64, p65, p66, -⟩ := hq
        have hF68 := Fr_tr hF45 hF59 (Fr_sub (by decide)) (Fr_sub (by decide))
        have hP69 := Pf_tr hP46 hQ60 (by omega)
        have hS70 := Fx_f hS47 hF59 (by decide)
        have hV71 := Fx_f hV48 hF59 (by decide)
        have sf72 : ND A55 (n) (30) (0) (0) (0) (0) (Ax 21 (n).toNat) (0) := ND_ag (by omega) (Ag_pf hQ60 (by omega)) sf49
        have sf73 : CI 1 A55 (sy1) pb (k) (Vs) (n) (last) (n + 1) (nd1) (sy) (sy1) := CI_ag (by omega) (by omega) (Sg_fr hF59 (by decide)) (Qg_fr hF59 (by decide)) (Ag_pf hQ60 (by omega)) (hQ60 21 _ rfl (by omega)) sf50
        have sf74 : NdM A55 (nd) (nd1) (sy) := NdM_pf hQ60 (by omega) (by omega) sf51
        have bnd2_56 : (0 : Int) ≤ nd2_56 ∧ nd2_56 ≤ 6999 := e61 ▸ hW58.1 31
        refine .inr ⟨_, rfl, ?_⟩
        refine jx_ld (pc' := 45) (l' := jSto1 L 4 (.int (i32 (nd1)))) (st' := []) rfl rfl ?_
        obtain ⟨L75, eL75⟩ : ∃ q, q = jSto1 L 4 (.int (i32 (nd1))) := ⟨_, rfl⟩
        rw [← eL75]
        have gL75_0 : jGet L75 0 = some (.ref 66) := eL75 ▸ jg_ne (by decide) gL_0 rfl
        have gL75_1 : jGet L75 1 = some (.int (i32 (lv))) := eL75 ▸ jg_ne (by decide) gL_1 rfl
        have gL75_2 : jGet L75 2 = some (.int (i32 (n))) := eL75 ▸ jg_ne (by decide) gL_2 rfl
        have gL75_3 : jGet L75 3 = some (.int (i32 (last))) := eL75 ▸ jg_ne (by decide) gL_3 rfl
        have gL75_4 : jGet L75 4 = some (.int (i32 (nd1))) := eL75 ▸ jg_eq
        refine jx_ld (pc' := 46) (l' := L75) (st' := [.ref 66]) rfl (jl_aloadn gL75_0) ?_
        refine jr_get (pc' := 49) (i := 34) (v := .ref 84) rfl rfl (by decide) rfl rfl ?_
        refine jx_ld (pc' := 51) (l' := L75) (st' := [.int (i32 (nd1)), .ref 84]) rfl (jl_iload gL75_4) ?_
        refine jx_ld (pc' := 52) (l' := L75) (st' := [.ref 66, .int (i32 (nd1)), .ref 84]) rfl (jl_aloadn gL75_0) ?_
        refine jx_vr (pc' := 55) (as := []) (st := [.int (i32 (nd1)), .ref 84]) rfl rfl rfl rfl ⟨rfl, rfl, Nat.le_of_ble_eq_true rfl⟩ rfl rfl (REw_all X 9 (dd := d) (hd := by omega) (hW := hW58)  (ln := ln1) (e_ln := show G54 9 = ln1 from ((hF59.1 9 rfl).trans ((hF36.1 9 rfl).trans ((hF7.1 9 rfl).trans (ex_ln1))))) (le := A 4 (ln1).toNat) (e_le := show A55 4 (ln1).toNat = A 4 (ln1).toNat from (congrFun ((hF59.2 4 rfl).trans ((hF36.2 4 rfl).trans ((hF7.2 4 rfl).trans (hFx.2 4 rfl)))) _)) (at0 := at2_32) (e_at0 := show G54 10 = at2_32 from ((hF59.1 10 rfl).trans (e37))) (fk := fk2_5) (e_fk := show G54 16 = fk2_5 from ((hF59.1 16 rfl).trans ((hF36.1 16 rfl).trans (e9)))) (op0 := op2_34) (e_op0 := show G54 15 = op2_34 from ((hF59.1 15 rfl).trans (e39))) (nd := nd2_56) (e_nd := show G54 31 = nd2_56 from (e61)) (tk0 := tk2_33) (e_tk0 := show G54 11 = tk2_33 from ((hF59.1 11 rfl).trans (e38))) (ec := ec2_57) (e_ec := show ecn A55 (G54 31) = ec2_57 from e62) (sy := sy1) (e_sy := show G54 19 = sy1 from ((hF59.1 19 rfl).trans ((hF36.1 19 rfl).trans ((hF7.1 19 rfl).trans (ex_sy1))))) (i_SV := (SV_fx i_SV e_vi (show G54 29 = vi1 from ((hF59.1 29 rfl).trans ((hF36.1 29 rfl).trans ((hF7.1 29 rfl).trans (ex_vi1))))) (by omega) hV71))   (p_0 := by omega) (p_1 := by omega) (p_2 := by omega) (p_3 := by omega) (p_4 := by omega) (p_5 := by omega)) (fun o V' hq => ?_)
        obtain ⟨G76, A77, r78, at2_79, fk2_80, op2_81, nd2_82, tk2_83, ec2_84, rfl, rfl, hW85, hF86, hQ87, b88, e89, e90, e91, e92, e93, e94, p95, p96, p97, p98, p99, p100, q101⟩ := hq
        have hF102 := Fr_tr hF68 hF86 (Fr_sub (by decide)) (Fr_sub (by decide))
        have hP103 := Pf_tr hP69 hQ87 (by omega)
        have hS104 := Fx_f hS70 hF86 (by decide)
        have hV105 := Fx_f hV71 hF86 (by decide)
        have sf106 : ND A77 (n) (30) (0) (0) (0) (0) (Ax 21 (n).toNat) (0) := ND_ag (by omega) (Ag_pf hQ87 (by omega)) sf72
        have sf107 : CI 1 A77 (sy1) pb (k) (Vs) (n) (last) (n + 1) (nd1) (sy) (sy1) := CI_ag (by omega) (by omega) (Sg_fr hF86 (by decide)) (Qg_fr hF86 (by decide)) (Ag_pf hQ87 (by omega)) (hQ87 21 _ rfl (by omega)) sf73
        have sf108 : NdM A77 (nd) (nd1) (sy) := NdM_pf hQ87 (by omega) (by omega) sf74
        have sf109 : ND A77 (nd1) (34) (0) (0) (0) (0) (0) (0) := ND_ag (by omega) (Ag_pf hQ87 (by omega)) p65
        have sf110 : NdM A77 (nd1) (nd1 + 1) (sy1) := NdM_pf hQ87 (by omega) (by omega) p66
        have bat2_79 : (0 : Int) ≤ at2_79 ∧ at2_79 ≤ 3002 := e89 ▸ hW85.1 10
        have bfk2_80 : (0 : Int) ≤ fk2_80 ∧ fk2_80 ≤ 6 := e90 ▸ hW85.1 16
        have bop2_81 : (-2147483648 : Int) ≤ op2_81 ∧ op2_81 ≤ 2147483647 := e91 ▸ hW85.1 15
        have bnd2_82 : (0 : Int) ≤ nd2_82 ∧ nd2_82 ≤ 6999 := e92 ▸ hW85.1 31
        have ztk2_83 := tz_b tk2_83
        have btk2_83 : (0 : Int) ≤ tk2_83 ∧ tk2_83 ≤ 5 := e93 ▸ hW85.1 11
        refine .inr ⟨_, rfl, ?_⟩
        rcases q101 with ⟨a111, a112, a113, a114, a115, a116⟩ | ⟨a117, a118, a119⟩ | ⟨a120, a121, a122, a123, a124, a125, a126⟩
        · have _q : True := trivial
          exfalso
          omega
        · have _q : True := trivial
          refine jr_st (pc' := 56) (i := 17) (m := 7000) (z := nd1) (y := r78) rfl (by decide) rfl (by decide) (by omega) (by omega) rfl ?_
          have hW128 : Wk G76 (uA A77 17 (nd1).toNat (r78)) := Wk_a hW85 (show (-2147483648 : Int) ≤ r78 by omega) (show r78 ≤ (2147483647 : Int) by omega)
          have hF129 := Fr_a (z := r78) (k := 17) (n := (nd1).toNat) hF102 (by decide)
          obtain ⟨A127, eA127⟩ : ∃ q, q = uA A77 17 (nd1).toNat (r78) := ⟨_, rfl⟩
          rw [← eA127]
          rw [← eA127] at hW128 hF129
          have q130 : A127 17 (nd1).toNat = r78 := by rw [eA127]; exact uA_eq
          have hP131 : Pf nd A A127 := eA127 ▸ Pf_a hP103 (z := nd1) (by omega) (by omega)
          have hS132 : Fx sr (sy) A A127 := eA127 ▸ Fx_n hS104 rfl
          have hV133 : Fx [14] (vi) A A127 := eA127 ▸ Fx_n hV105 rfl
          have sf134 : ND A127 (n) (30) (0) (0) (0) (0) (Ax 21 (n).toNat) (0) := ND_ag (by omega) (Ag_st eA127 (by omega) (by omega)) sf106
          have sf135 : CI 1 A127 (sy1) pb (k) (Vs) (n) (last) (n + 1) (nd1) (sy) (sy1) := CI_ag (by omega) (by omega) (Sg_ne eA127 rfl) (Qg_ne eA127 rfl) (Ag_st eA127 (by omega) (by omega)) ((congrFun ((congrFun eA127 21).trans (uA_ne (by decide))) _)) sf107
          have sf136 : NdM A127 (nd) (nd1) (sy) := NdM_st eA127 (by decide) sf108
          have sf137 : ND A127 (nd1) (34) (r78) (0) (0) (0) (0) (0) := ND_a eA127 sf109
          have sf138 : NdM A127 (nd1) (nd1 + 1) (sy1) := NdM_st eA127 (by decide) sf110
          have ec139 : ecn A127 (G76 31) = ec2_84 := (ecn_e ((congrFun eA127 15).trans (uA_ne (by decide)))).trans e94
          refine jx_ld (pc' := 57) (l' := L75) (st' := [.ref 66]) rfl (jl_aloadn gL75_0) ?_
          refine jx_vr (pc' := 60) (as := []) (st := []) rfl rfl rfl rfl ⟨rfl, rfl, Nat.le_of_ble_eq_true rfl⟩ rfl rfl (c_endLine (dd := d) (hd := by omega) (hW := hW128)  (ln := ln1) (e_ln := show G76 9 = ln1 from ((hF86.1 9 rfl).trans ((hF59.1 9 rfl).trans ((hF36.1 9 rfl).trans ((hF7.1 9 rfl).trans (ex_ln1)))))) (li := li) (e_li := show G76 3 = li from ((hF86.1 3 rfl).trans ((hF59.1 3 rfl).trans ((hF36.1 3 rfl).trans ((hF7.1 3 rfl).trans ((hFx.1 3 rfl).trans (e_li))))))) (fk := fk2_80) (e_fk := show G76 16 = fk2_80 from (e90)) (tk0 := tk2_83) (e_tk0 := show G76 11 = tk2_83 from (e93))    (p_0 := by omega)) (fun o V' hq => ?_)
          obtain ⟨G140, A141, ln2_142, fk2_143, rfl, rfl, hW144, hF145, e146, e147, q148⟩ := hq
          have hF149 := Fr_tr hF129 hF145 (Fr_sub (by decide)) (Fr_sub (by decide))
          have hP150 := Pf_f hP131 hF145 (by decide)
          have hS151 := Fx_f hS132 hF145 (by decide)
          have hV152 := Fx_f hV133 hF145 (by decide)
          have sf153 : ND A141 (n) (30) (0) (0) (0) (0) (Ax 21 (n).toNat) (0) := ND_ag (by omega) (Ag_fr hF145 (by decide)) sf134
          have sf154 : CI 1 A141 (sy1) pb (k) (Vs) (n) (last) (n + 1) (nd1) (sy) (sy1) := CI_ag (by omega) (by omega) (Sg_fr hF145 (by decide)) (Qg_fr hF145 (by decide)) (Ag_fr hF145 (by decide)) (congrFun (hF145.2 21 rfl) _) sf135
          have sf155 : NdM A141 (nd) (nd1) (sy) := NdM_f hF145 (by decide) sf136
          have sf156 : ND A141 (nd1) (34) (r78) (0) (0) (0) (0) (0) := ND_ag (by omega) (Ag_fr hF145 (by decide)) sf137
          have sf157 : NdM A141 (nd1) (nd1 + 1) (sy1) := NdM_f hF145 (by decide) sf138
          have ec158 : ecn A141 (G140 31) = ec2_84 := (ecn_f (hF145.2 15 rfl) (hF145.1 31 rfl)).trans ec139
          have bln2_142 : (0 : Int) ≤ ln2_142 ∧ ln2_142 ≤ 3000 := e146 ▸ hW144.1 9
          have bfk2_143 : (0 : Int) ≤ fk2_143 ∧ fk2_143 ≤ 6 := e147 ▸ hW144.1 16
          refine .inl ⟨rfl, ?_⟩
          rcases q148 with ⟨a159, a160, a161, a162, a163⟩ | ⟨a164, a165⟩
          · have _q : True := trivial
            exfalso
            omega
          · have _q : True := trivial
            refine jx_ld (pc' := 61) (l' := L75) (st' := [.ref 66]) rfl (jl_aloadn gL75_0) ?_
            refine jx_vr (pc' := 64) (as := []) (st := []) rfl rfl rfl rfl ⟨rfl, rfl, Nat.le_of_ble_eq_true rfl⟩ rfl rfl (c_bad (dd := d) (hd := by omega) (hW := hW144)  (fk := fk2_143) (e_fk := show G140 16 = fk2_143 from (e147))    ) (fun o V' hq => ?_)
            obtain ⟨r166, rfl, rfl, b167, q168⟩ := hq
            refine .inr ⟨_, rfl, ?_⟩
            rcases q168 with ⟨rfl, a169⟩ | ⟨rfl, a170⟩
            · have _q : True := trivial
              refine jx_if_eq (pc' := 67) (tg := 71) rfl rfl rfl (by decide) (by decide) (fun h171 => ?_) (fun h171 => ?_)
              · have _q := h171
                exact absurd h171 (by omega)
              · have _q := h171
                refine jx_ar (pc' := 68) (st' := [.int (i32 (0))]) rfl rfl rfl rfl ?_
                refine jx_go (tg := 78) rfl rfl ?_
                refine jx_ld (pc' := 80) (l' := jSto1 L75 5 (.int (i32 (0)))) (st' := []) rfl rfl ?_
                obtain ⟨L172, eL172⟩ : ∃ q, q = jSto1 L75 5 (.int (i32 (0))) := ⟨_, rfl⟩
                rw [← eL172]
                have gL172_0 : jGet L172 0 = some (.ref 66) := eL172 ▸ jg_ne (by decide) gL75_0 rfl
                have gL172_1 : jGet L172 1 = some (.int (i32 (lv))) := eL172 ▸ jg_ne (by decide) gL75_1 rfl
                have gL172_2 : jGet L172 2 = some (.int (i32 (n))) := eL172 ▸ jg_ne (by decide) gL75_2 rfl
                have gL172_3 : jGet L172 3 = some (.int (i32 (last))) := eL172 ▸ jg_ne (by decide) gL75_3 rfl
                have gL172_4 : jGet L172 4 = some (.int (i32 (nd1))) := eL172 ▸ jg_ne (by decide) gL75_4 rfl
                have gL172_5 : jGet L172 5 = some (.int (i32 (0))) := eL172 ▸ jg_eq
                refine jx_ld (pc' := 81) (l' := L172) (st' := [.ref 66]) rfl (jl_aloadn gL172_0) ?_
                refine jx_vr (pc' := 84) (as := []) (st := []) rfl rfl rfl rfl ⟨rfl, rfl, Nat.le_of_ble_eq_true rfl⟩ rfl rfl (c_bad (dd := d) (hd := by omega) (hW := hW144)  (fk := fk2_143) (e_fk := show G140 16 = fk2_143 from (e147))    ) (fun o V' hq => ?_)
                obtain ⟨r173, rfl, rfl, b174, q175⟩ := hq
                refine .inr ⟨_, rfl, ?_⟩
                rcases q175 with ⟨rfl, a176⟩ | ⟨rfl, a177⟩
                · have _q : True := trivial
                  refine jx_if_eq (pc' := 87) (tg := 89) rfl rfl rfl (by decide) (by decide) (fun h178 => ?_) (fun h178 => ?_)
                  · have _q := h178
                    exact absurd h178 (by omega)
                  · have _q := h178
                    refine jx_ar (pc' := 88) (st' := [.int (i32 (0))]) rfl rfl rfl rfl ?_
                    refine jx_rt (v := some (.int (i32 (0)))) rfl rfl rfl rfl rfl rfl ?_
                    exact ⟨_, _, _, ln2_142, at2_79, fk2_143, nd2_82, sy1, na1, vi1, A 3 (ln2_142).toNat, ec2_84, rfl, rfl, hW144, hF149, hP150, hS151, hV152, by omega, (e146), ((hF145.1 10 rfl).trans (e89)), (e147), ((hF145.1 31 rfl).trans (e92)), ((hF145.1 19 rfl).trans ((hF86.1 19 rfl).trans ((hF59.1 19 rfl).trans ((hF36.1 19 rfl).trans ((hF7.1 19 rfl).trans (ex_sy1)))))), ((hF145.1 28 rfl).trans ((hF86.1 28 rfl).trans ((hF59.1 28 rfl).trans ((hF36.1 28 rfl).trans ((hF7.1 28 rfl).trans (ex_na1)))))), ((hF145.1 29 rfl).trans ((hF86.1 29 rfl).trans ((hF59.1 29 rfl).trans ((hF36.1 29 rfl).trans ((hF7.1 29 rfl).trans (ex_vi1)))))), (congrFun ((hF145.2 3 rfl).trans (((congrFun eA127 3).trans (uA_ne (by decide))).trans ((hF86.2 3 rfl).trans ((hF59.2 3 rfl).trans ((hF36.2 3 rfl).trans ((hF7.2 3 rfl).trans (hFx.2 3 rfl))))))) _), ec158, by omega, by omega, by omega, by omega, by omega, by omega, by omega, by omega, by omega, by omega, by first | exact Or.inl (⟨by omega, by omega⟩)⟩
                · have _q : True := trivial
                  exfalso
                  omega
            · have _q : True := trivial
              exfalso
              omega
        · have _q : True := trivial
          refine jr_st (pc' := 56) (i := 17) (m := 7000) (z := nd1) (y := r78) rfl (by decide) rfl (by decide) (by omega) (by omega) rfl ?_
          have hW180 : Wk G76 (uA A77 17 (nd1).toNat (r78)) := Wk_a hW85 (show (-2147483648 : Int) ≤ r78 by omega) (show r78 ≤ (2147483647 : Int) by omega)
          have hF181 := Fr_a (z := r78) (k := 17) (n := (nd1).toNat) hF102 (by decide)
          obtain ⟨A179, eA179⟩ : ∃ q, q = uA A77 17 (nd1).toNat (r78) := ⟨_, rfl⟩
          rw [← eA179]
          rw [← eA179] at hW180 hF181
          have q182 : A179 17 (nd1).toNat = r78 := by rw [eA179]; exact uA_eq
          have hP183 : Pf nd A A179 := eA179 ▸ Pf_a hP103 (z := nd1) (by omega) (by omega)
          have hS184 : Fx sr (sy) A A179 := eA179 ▸ Fx_n hS104 rfl
          have hV185 : Fx [14] (vi) A A179 := eA179 ▸ Fx_n hV105 rfl
          have sf186 : ND A179 (n) (30) (0) (0) (0) (0) (Ax 21 (n).toNat) (0) := ND_ag (by omega) (Ag_st eA179 (by omega) (by omega)) sf106
          have sf187 : CI 1 A179 (sy1) pb (k) (Vs) (n) (last) (n + 1) (nd1) (sy) (sy1) := CI_ag (by omega) (by omega) (Sg_ne eA179 rfl) (Qg_ne eA179 rfl) (Ag_st eA179 (by omega) (by omega)) ((congrFun ((congrFun eA179 21).trans (uA_ne (by decide))) _)) sf107
          have sf188 : NdM A179 (nd) (nd1) (sy) := NdM_st eA179 (by decide) sf108
          have sf189 : ND A179 (nd1) (34) (r78) (0) (0) (0) (0) (0) := ND_a eA179 sf109
          have sf190 : NdM A179 (nd1) (nd1 + 1) (sy1) := NdM_st eA179 (by decide) sf110
          have sf191 : wE A179 Vs sb (2 * 9 + 2) (r78) (nd2_56) (nd2_82) := wE_ag (by omega) (Sg_ne eA179 rfl) (Ag_st eA179 (by omega) (by omega)) a123
          have sf192 : NdM A179 (nd2_56) (nd2_82) (sy1) := NdM_st eA179 (by decide) a125
          have ec193 : ecn A179 (G76 31) = ec2_84 := (ecn_e ((congrFun eA179 15).trans (uA_ne (by decide)))).trans e94
          refine jx_ld (pc' := 57) (l' := L75) (st' := [.ref 66]) rfl (jl_aloadn gL75_0) ?_
          refine jx_vr (pc' := 60) (as := []) (st := []) rfl rfl rfl rfl ⟨rfl, rfl, Nat.le_of_ble_eq_true rfl⟩ rfl rfl (c_endLine (dd := d) (hd := by omega) (hW := hW180)  (ln := ln1) (e_ln := show G76 9 = ln1 from ((hF86.1 9 rfl).trans ((hF59.1 9 rfl).trans ((hF36.1 9 rfl).trans ((hF7.1 9 rfl).trans (ex_ln1)))))) (li := li) (e_li := show G76 3 = li from ((hF86.1 3 rfl).trans ((hF59.1 3 rfl).trans ((hF36.1 3 rfl).trans ((hF7.1 3 rfl).trans ((hFx.1 3 rfl).trans (e_li))))))) (fk := fk2_80) (e_fk := show G76 16 = fk2_80 from (e90)) (tk0 := tk2_83) (e_tk0 := show G76 11 = tk2_83 from (e93))    (p_0 := by omega)) (fun o V' hq => ?_)
          obtain ⟨G194, A195, ln2_196, fk2_197, rfl, rfl, hW198, hF199, e200, e201, q202⟩ := hq
          have hF203 := Fr_tr hF181 hF199 (Fr_sub (by decide)) (Fr_sub (by decide))
          have hP204 := Pf_f hP183 hF199 (by decide)
          have hS205 := Fx_f hS184 hF199 (by decide)
          have hV206 := Fx_f hV185 hF199 (by decide)
          have sf207 : ND A195 (n) (30) (0) (0) (0) (0) (Ax 21 (n).toNat) (0) := ND_ag (by omega) (Ag_fr hF199 (by decide)) sf186
          have sf208 : CI 1 A195 (sy1) pb (k) (Vs) (n) (last) (n + 1) (nd1) (sy) (sy1) := CI_ag (by omega) (by omega) (Sg_fr hF199 (by decide)) (Qg_fr hF199 (by decide)) (Ag_fr hF199 (by decide)) (congrFun (hF199.2 21 rfl) _) sf187
          have sf209 : NdM A195 (nd) (nd1) (sy) := NdM_f hF199 (by decide) sf188
          have sf210 : ND A195 (nd1) (34) (r78) (0) (0) (0) (0) (0) := ND_ag (by omega) (Ag_fr hF199 (by decide)) sf189
          have sf211 : NdM A195 (nd1) (nd1 + 1) (sy1) := NdM_f hF199 (by decide) sf190
          have sf212 : wE A195 Vs sb (2 * 9 + 2) (r78) (nd2_56) (nd2_82) := wE_ag (by omega) (Sg_fr hF199 (by decide)) (Ag_fr hF199 (by decide)) sf191
          have sf213 : NdM A195 (nd2_56) (nd2_82) (sy1) := NdM_f hF199 (by decide) sf192
          have ec214 : ecn A195 (G194 31) = ec2_84 := (ecn_f (hF199.2 15 rfl) (hF199.1 31 rfl)).trans ec193
          have bln2_196 : (0 : Int) ≤ ln2_196 ∧ ln2_196 ≤ 3000 := e200 ▸ hW198.1 9
          have bfk2_197 : (0 : Int) ≤ fk2_197 ∧ fk2_197 ≤ 6 := e201 ▸ hW198.1 16
          refine .inl ⟨rfl, ?_⟩
          rcases q202 with ⟨a215, a216, a217, a218, a219⟩ | ⟨a220, a221⟩
          · have _q : True := trivial
            have b222 : (0 : Int) ≤ A 3 (ln2_196).toNat ∧ A 3 (ln2_196).toNat ≤ 3000 := hW.2 3 _
            have lt223 : ln2_196 < li → A 4 (ln1).toNat < A 3 (ln2_196).toNat := fun hh => LT_nx (LT_ext (((hF199.1 3 rfl).trans ((hF86.1 3 rfl).trans ((hF59.1 3 rfl).trans ((hF36.1 3 rfl).trans ((hF7.1 3 rfl).trans (hFx.1 3 rfl))))))) (((hF199.2 3 rfl).trans (((congrFun eA179 3).trans (uA_ne (by decide))).trans ((hF86.2 3 rfl).trans ((hF59.2 3 rfl).trans ((hF36.2 3 rfl).trans ((hF7.2 3 rfl).trans (hFx.2 3 rfl)))))))) (((hF199.2 4 rfl).trans (((congrFun eA179 4).trans (uA_ne (by decide))).trans ((hF86.2 4 rfl).trans ((hF59.2 4 rfl).trans ((hF36.2 4 rfl).trans ((hF7.2 4 rfl).trans (hFx.2 4 rfl)))))))) i_LT) (show G194 3 = li from ((hF199.1 3 rfl).trans ((hF86.1 3 rfl).trans ((hF59.1 3 rfl).trans ((hF36.1 3 rfl).trans ((hF7.1 3 rfl).trans ((hFx.1 3 rfl).trans (e_li)))))))) (show A195 4 (ln1).toNat = A 4 (ln1).toNat from (congrFun ((hF199.2 4 rfl).trans (((congrFun eA179 4).trans (uA_ne (by decide))).trans ((hF86.2 4 rfl).trans ((hF59.2 4 rfl).trans ((hF36.2 4 rfl).trans ((hF7.2 4 rfl).trans (hFx.2 4 rfl))))))) _)) (show A195 3 (ln2_196).toNat = A 3 (ln2_196).toNat from (congrFun ((hF199.2 3 rfl).trans (((congrFun eA179 3).trans (uA_ne (by decide))).trans ((hF86.2 3 rfl).trans ((hF59.2 3 rfl).trans ((hF36.2 3 rfl).trans ((hF7.2 3 rfl).trans (hFx.2 3 rfl))))))) _)) (show ln2_196 = ln1 + 1 by omega) (by omega) hh
            refine jx_ld (pc' := 61) (l' := L75) (st' := [.ref 66]) rfl (jl_aloadn gL75_0) ?_
            refine jx_vr (pc' := 64) (as := []) (st := []) rfl rfl rfl rfl ⟨rfl, rfl, Nat.le_of_ble_eq_true rfl⟩ rfl rfl (c_bad (dd := d) (hd := by omega) (hW := hW198)  (fk := fk2_197) (e_fk := show G194 16 = fk2_197 from (e201))    ) (fun o V' hq => ?_)
            obtain ⟨r224, rfl, rfl, b225, q226⟩ := hq
            refine .inr ⟨_, rfl, ?_⟩
            rcases q226 with ⟨rfl, a227⟩ | ⟨rfl, a228⟩
            · have _q : True := trivial
              exfalso
              omega
            · have _q : True := trivial
              refine jx_if_eq (pc' := 67) (tg := 71) rfl rfl rfl (by decide) (by decide) (fun h229 => ?_) (fun h229 => ?_)
              · have _q := h229
                refine jx_ld (pc' := 72) (l' := L75) (st' := [.ref 66]) rfl (jl_aloadn gL75_0) ?_
                refine jx_ld (pc' := 73) (l' := L75) (st' := [.int (i32 (lv)), .ref 66]) rfl (jl_iloadn gL75_1) ?_
                refine jx_ar (pc' := 74) (st' := [.int (i32 (2)), .int (i32 (lv)), .ref 66]) rfl rfl rfl rfl ?_
                refine jx_add (pc' := 75) rfl rfl ?_
                refine jx_vr (pc' := 78) (as := [.int (i32 ((lv + 2)))]) (st := []) rfl rfl rfl rfl ⟨rfl, rfl, Nat.le_of_ble_eq_true rfl⟩ rfl rfl (hP (dd := d) (hd := by omega) (hW := hW198) (lv := (lv + 2)) (at0 := at2_79) (ln := ln2_196) (e_ln := show G194 9 = ln2_196 from (e200)) (li := li) (e_li := show G194 3 = li from ((hF199.1 3 rfl).trans ((hF86.1 3 rfl).trans ((hF59.1 3 rfl).trans ((hF36.1 3 rfl).trans ((hF7.1 3 rfl).trans ((hFx.1 3 rfl).trans (e_li)))))))) (fk := fk2_197) (e_fk := show G194 16 = fk2_197 from (e201)) (nd := nd2_82) (e_nd := show G194 31 = nd2_82 from ((hF199.1 31 rfl).trans (e92))) (sy := sy1) (e_sy := show G194 19 = sy1 from ((hF199.1 19 rfl).trans ((hF86.1 19 rfl).trans ((hF59.1 19 rfl).trans ((hF36.1 19 rfl).trans ((hF7.1 19 rfl).trans (ex_sy1))))))) (na := na1) (e_na := show G194 28 = na1 from ((hF199.1 28 rfl).trans ((hF86.1 28 rfl).trans ((hF59.1 28 rfl).trans ((hF36.1 28 rfl).trans ((hF7.1 28 rfl).trans (ex_na1))))))) (vi := vi1) (e_vi := show G194 29 = vi1 from ((hF199.1 29 rfl).trans ((hF86.1 29 rfl).trans ((hF59.1 29 rfl).trans ((hF36.1 29 rfl).trans ((hF7.1 29 rfl).trans (ex_vi1))))))) (lf := A 3 (ln2_196).toNat) (e_lf := show A195 3 (ln2_196).toNat = A 3 (ln2_196).toNat from (congrFun ((hF199.2 3 rfl).trans (((congrFun eA179 3).trans (uA_ne (by decide))).trans ((hF86.2 3 rfl).trans ((hF59.2 3 rfl).trans ((hF36.2 3 rfl).trans ((hF7.2 3 rfl).trans (hFx.2 3 rfl))))))) _)) (ac := at2_79) (e_ac := show G194 10 = at2_79 from ((hF199.1 10 rfl).trans (e89))) (ec := ec2_84) (e_ec := show ecn A195 (G194 31) = ec2_84 from ec214) (i_LT := (LT_ext (((hF199.1 3 rfl).trans ((hF86.1 3 rfl).trans ((hF59.1 3 rfl).trans ((hF36.1 3 rfl).trans ((hF7.1 3 rfl).trans (hFx.1 3 rfl))))))) (((hF199.2 3 rfl).trans (((congrFun eA179 3).trans (uA_ne (by decide))).trans ((hF86.2 3 rfl).trans ((hF59.2 3 rfl).trans ((hF36.2 3 rfl).trans ((hF7.2 3 rfl).trans (hFx.2 3 rfl)))))))) (((hF199.2 4 rfl).trans (((congrFun eA179 4).trans (uA_ne (by decide))).trans ((hF86.2 4 rfl).trans ((hF59.2 4 rfl).trans ((hF36.2 4 rfl).trans ((hF7.2 4 rfl).trans (hFx.2 4 rfl)))))))) i_LT)) (i_SV := (SV_fx i_SV e_vi (show G194 29 = vi1 from ((hF199.1 29 rfl).trans ((hF86.1 29 rfl).trans ((hF59.1 29 rfl).trans ((hF36.1 29 rfl).trans ((hF7.1 29 rfl).trans (ex_vi1))))))) (by omega) hV206)) (i_PQ := (PQ_fx i_PQ hS205 (by omega) (hF203.2 29 rfl) (hF203.2 30 rfl))) (hvb := hvb) (h_lv := ⟨(by omega), (by omega)⟩)  (p_0 := by omega) (p_1 := by omega) (p_2 := by omega) (p_3 := by omega) (p_4 := by omega) (p_5 := by omega) (p_6 := by omega) (p_7 := by omega) (p_8 := by omega) (p_9 := by omega) (p_10 := by omega)) (fun o V' hq => ?_)
                obtain ⟨G230, A231, r232, ln2_233, at2_234, fk2_235, nd2_236, sy2_237, na2_238, vi2_239, lf2_240, ec2_241, rfl, rfl, hW242, hF243, hQ244, hQ245, hQ246, b247, e248, e249, e250, e251, e252, e253, e254, e255, e256, p257, p258, p259, p260, p261, p262, p263, p264, p265, q266⟩ := hq
                have hF267 := Fr_tr hF203 hF243 (Fr_sub (by decide)) (Fr_sub (by decide))
                have k268 : A231 17 (nd1).toNat = r78 := (hQ244 17 _ rfl (by omega)).trans (show A195 17 (nd1).toNat = r78 from (congrFun (hF199.2 17 rfl) _).trans (q182))
                have hP269 := Pf_tr hP204 hQ244 (by omega)
                have hS270 := Fx_tr hS205 hQ245 (by omega)
                have hV271 := Fx_tr hV206 hQ246 (by omega)
                have sf272 : ND A231 (n) (30) (0) (0) (0) (0) (Ax 21 (n).toNat) (0) := ND_ag (by omega) (Ag_pf hQ244 (by omega)) sf207
                have sf273 : CI 1 A231 (sy1) pb (k) (Vs) (n) (last) (n + 1) (nd1) (sy) (sy1) := CI_ag (by omega) (by omega) (Fx_su hQ245 (by omega)) (Qg_fr hF243 (by decide)) (Ag_pf hQ244 (by omega)) (hQ244 21 _ rfl (by omega)) sf208
                have sf274 : NdM A231 (nd) (nd1) (sy) := NdM_pf hQ244 (by omega) (by omega) sf209
                have sf275 : ND A231 (nd1) (34) (r78) (0) (0) (0) (0) (0) := ND_ag (by omega) (Ag_pf hQ244 (by omega)) sf210
                have sf276 : NdM A231 (nd1) (nd1 + 1) (sy1) := NdM_pf hQ244 (by omega) (by omega) sf211
                have sf277 : wE A231 Vs sb (2 * 9 + 2) (r78) (nd2_56) (nd2_82) := wE_ag (by omega) (Fx_su hQ245 (by omega)) (Ag_pf hQ244 (by omega)) sf212
                have sf278 : NdM A231 (nd2_56) (nd2_82) (sy1) := NdM_pf hQ244 (by omega) (by omega) sf213
                have bln2_233 : (0 : Int) ≤ ln2_233 ∧ ln2_233 ≤ 3000 := e248 ▸ hW242.1 9
                have bat2_234 : (0 : Int) ≤ at2_234 ∧ at2_234 ≤ 3002 := e249 ▸ hW242.1 10
                have bfk2_235 : (0 : Int) ≤ fk2_235 ∧ fk2_235 ≤ 6 := e250 ▸ hW242.1 16
                have bnd2_236 : (0 : Int) ≤ nd2_236 ∧ nd2_236 ≤ 6999 := e251 ▸ hW242.1 31
                have bsy2_237 : (0 : Int) ≤ sy2_237 ∧ sy2_237 ≤ 202 := e252 ▸ hW242.1 19
                have bna2_238 : (0 : Int) ≤ na2_238 ∧ na2_238 ≤ 200 := e253 ▸ hW242.1 28
                have bvi2_239 : (0 : Int) ≤ vi2_239 ∧ vi2_239 ≤ 202 := e254 ▸ hW242.1 29
                have blf2_240 : (0 : Int) ≤ lf2_240 ∧ lf2_240 ≤ 3000 := e255 ▸ hW242.2 3 _
                refine .inr ⟨_, rfl, ?_⟩
                rcases q266 with ⟨a279, a280⟩ | ⟨a281, a282, a283, a284, a285, a286, a287, a288, a289, a290⟩
                · have _q : True := trivial
                  refine jx_ld (pc' := 80) (l' := jSto1 L75 5 (.int (i32 (r232)))) (st' := []) rfl rfl ?_
                  obtain ⟨L291, eL291⟩ : ∃ q, q = jSto1 L75 5 (.int (i32 (r232))) := ⟨_, rfl⟩
                  rw [← eL291]
                  have gL291_0 : jGet L291 0 = some (.ref 66) := eL291 ▸ jg_ne (by decide) gL75_0 rfl
                  have gL291_1 : jGet L291 1 = some (.int (i32 (lv))) := eL291 ▸ jg_ne (by decide) gL75_1 rfl
                  have gL291_2 : jGet L291 2 = some (.int (i32 (n))) := eL291 ▸ jg_ne (by decide) gL75_2 rfl
                  have gL291_3 : jGet L291 3 = some (.int (i32 (last))) := eL291 ▸ jg_ne (by decide) gL75_3 rfl
                  have gL291_4 : jGet L291 4 = some (.int (i32 (nd1))) := eL291 ▸ jg_ne (by decide) gL75_4 rfl
                  have gL291_5 : jGet L291 5 = some (.int (i32 (r232))) := eL291 ▸ jg_eq
                  refine jx_ld (pc' := 81) (l' := L291) (st' := [.ref 66]) rfl (jl_aloadn gL291_0) ?_
                  refine jx_vr (pc' := 84) (as := []) (st := []) rfl rfl rfl rfl ⟨rfl, rfl, Nat.le_of_ble_eq_true rfl⟩ rfl rfl (c_bad (dd := d) (hd := by omega) (hW := hW242)  (fk := fk2_235) (e_fk := show G230 16 = fk2_235 from (e250))    ) (fun o V' hq => ?_)
                  obtain ⟨r292, rfl, rfl, b293, q294⟩ := hq
                  refine .inr ⟨_, rfl, ?_⟩
                  rcases q294 with ⟨rfl, a295⟩ | ⟨rfl, a296⟩
                  · have _q : True := trivial
                    refine jx_if_eq (pc' := 87) (tg := 89) rfl rfl rfl (by decide) (by decide) (fun h297 => ?_) (fun h297 => ?_)
                    · have _q := h297
                      exact absurd h297 (by omega)
                    · have _q := h297
                      refine jx_ar (pc' := 88) (st' := [.int (i32 (0))]) rfl rfl rfl rfl ?_
                      refine jx_rt (v := some (.int (i32 (0)))) rfl rfl rfl rfl rfl rfl ?_
                      exact ⟨_, _, _, ln2_233, at2_234, fk2_235, nd2_236, sy2_237, na2_238, vi2_239, lf2_240, ec2_241, rfl, rfl, hW242, hF267, hP269, hS270, hV271, by omega, (e248), (e249), (e250), (e251), (e252), (e253), (e254), (e255), e256, by omega, by omega, by omega, by omega, by omega, by omega, by omega, by omega, by omega, by omega, by first | exact Or.inl (⟨by omega, by omega⟩)⟩
                  · have _q : True := trivial
                    exfalso
                    omega
                · have _q : True := trivial
                  refine jx_ld (pc' := 80) (l' := jSto1 L75 5 (.int (i32 (r232)))) (st' := []) rfl rfl ?_
                  obtain ⟨L298, eL298⟩ : ∃ q, q = jSto1 L75 5 (.int (i32 (r232))) := ⟨_, rfl⟩
                  rw [← eL298]
                  have gL298_0 : jGet L298 0 = some (.ref 66) := eL298 ▸ jg_ne (by decide) gL75_0 rfl
                  have gL298_1 : jGet L298 1 = some (.int (i32 (lv))) := eL298 ▸ jg_ne (by decide) gL75_1 rfl
                  have gL298_2 : jGet L298 2 = some (.int (i32 (n))) := eL298 ▸ jg_ne (by decide) gL75_2 rfl
                  have gL298_3 : jGet L298 3 = some (.int (i32 (last))) := eL298 ▸ jg_ne (by decide) gL75_3 rfl
                  have gL298_4 : jGet L298 4 = some (.int (i32 (nd1))) := eL298 ▸ jg_ne (by decide) gL75_4 rfl
                  have gL298_5 : jGet L298 5 = some (.int (i32 (r232))) := eL298 ▸ jg_eq
                  refine jx_ld (pc' := 81) (l' := L298) (st' := [.ref 66]) rfl (jl_aloadn gL298_0) ?_
                  refine jx_vr (pc' := 84) (as := []) (st := []) rfl rfl rfl rfl ⟨rfl, rfl, Nat.le_of_ble_eq_true rfl⟩ rfl rfl (c_bad (dd := d) (hd := by omega) (hW := hW242)  (fk := fk2_235) (e_fk := show G230 16 = fk2_235 from (e250))    ) (fun o V' hq => ?_)
                  obtain ⟨r299, rfl, rfl, b300, q301⟩ := hq
                  refine .inr ⟨_, rfl, ?_⟩
                  rcases q301 with ⟨rfl, a302⟩ | ⟨rfl, a303⟩
                  · have _q : True := trivial
                    exfalso
                    omega
                  · have _q : True := trivial
                    refine jx_if_eq (pc' := 87) (tg := 89) rfl rfl rfl (by decide) (by decide) (fun h304 => ?_) (fun h304 => ?_)
                    · have _q := h304
                      refine jx_ld (pc' := 90) (l' := L298) (st' := [.ref 66]) rfl (jl_aloadn gL298_0) ?_
                      refine jr_get (pc' := 93) (i := 38) (v := .ref 88) rfl rfl (by decide) rfl rfl ?_
                      refine jx_ld (pc' := 95) (l' := L298) (st' := [.int (i32 (nd1)), .ref 88]) rfl (jl_iload gL298_4) ?_
                      refine jx_ld (pc' := 97) (l' := L298) (st' := [.int (i32 (r232)), .int (i32 (nd1)), .ref 88]) rfl (jl_iload gL298_5) ?_
                      refine jr_st (pc' := 98) (i := 21) (m := 7000) (z := nd1) (y := r232) rfl (by decide) rfl (by decide) (by omega) (by omega) rfl ?_
                      have hW306 : Wk G230 (uA A231 21 (nd1).toNat (r232)) := Wk_a hW242 (show (-2147483648 : Int) ≤ r232 by omega) (show r232 ≤ (2147483647 : Int) by omega)
                      have hF307 := Fr_a (z := r232) (k := 21) (n := (nd1).toNat) hF267 (by decide)
                      obtain ⟨A305, eA305⟩ : ∃ q, q = uA A231 21 (nd1).toNat (r232) := ⟨_, rfl⟩
                      rw [← eA305]
                      rw [← eA305] at hW306 hF307
                      have q308 : A305 21 (nd1).toNat = r232 := by rw [eA305]; exact uA_eq
                      have hP309 : Pf nd A A305 := eA305 ▸ Pf_a hP269 (z := nd1) (by omega) (by omega)
                      have hS310 : Fx sr (sy) A A305 := eA305 ▸ Fx_n hS270 rfl
                      have hV311 : Fx [14] (vi) A A305 := eA305 ▸ Fx_n hV271 rfl
                      have sf312 : ND A305 (n) (30) (0) (0) (0) (0) (Ax 21 (n).toNat) (0) := ND_ag (by omega) (Ag_st eA305 (by omega) (by omega)) sf272
                      have sf313 : CI 1 A305 (sy1) pb (k) (Vs) (n) (last) (n + 1) (nd1) (sy) (sy1) := CI_ag (by omega) (by omega) (Sg_ne eA305 rfl) (Qg_ne eA305 rfl) (Ag_st eA305 (by omega) (by omega)) ((by rw [eA305]; exact uA_ni (by omega))) sf273
                      have sf314 : NdM A305 (nd) (nd1) (sy) := NdM_st eA305 (by decide) sf274
                      have sf315 : ND A305 (nd1) (34) (r78) (0) (0) (0) (r232) (0) := ND_f eA305 sf275
                      have sf316 : NdM A305 (nd1) (nd1 + 1) (sy1) := NdM_st eA305 (by decide) sf276
                      have sf317 : wE A305 Vs sb (2 * 9 + 2) (r78) (nd2_56) (nd2_82) := wE_ag (by omega) (Sg_ne eA305 rfl) (Ag_st eA305 (by omega) (by omega)) sf277
                      have sf318 : NdM A305 (nd2_56) (nd2_82) (sy1) := NdM_st eA305 (by decide) sf278
                      have sf319 : wP A305 (sy2_237) pb (k) (Vs) (r232) (nd2_82) (nd2_236) (sy1) (sy2_237) := wP_ag (Sg_ne eA305 rfl) (Qg_ne eA305 rfl) (by omega) (by omega) (Ax_ag (Ag_st eA305 (by omega) (by omega))) a287
                      have sf320 : NX A305 (r232) := NX_r eA305 (by decide) a288
                      have sf321 : NdM A305 (nd2_82) (nd2_236) (sy1) := NdM_st eA305 (by decide) a290
                      have ec322 : ecn A305 (G230 31) = ec2_241 := (ecn_e ((congrFun eA305 15).trans (uA_ne (by decide)))).trans e256
                      refine jx_ld (pc' := 99) (l' := L298) (st' := [.ref 66]) rfl (jl_aloadn gL298_0) ?_
                      refine jx_ld (pc' := 100) (l' := L298) (st' := [.int (i32 (n)), .ref 66]) rfl (jl_iloadn gL298_2) ?_
                      refine jx_ld (pc' := 101) (l' := L298) (st' := [.int (i32 (last)), .int (i32 (n)), .ref 66]) rfl (jl_iloadn gL298_3) ?_
                      refine jx_ld (pc' := 103) (l' := L298) (st' := [.int (i32 (nd1)), .int (i32 (last)), .int (i32 (n)), .ref 66]) rfl (jl_iload gL298_4) ?_
                      refine jx_vr (pc' := 106) (as := [.int (i32 (n)), .int (i32 (last)), .int (i32 (nd1))]) (st := []) rfl rfl rfl rfl ⟨rfl, rfl, Nat.le_of_ble_eq_true rfl⟩ rfl rfl (c_addTo (dd := d) (zz := nd) (hd := by omega) (hW := hW306) (n := n) (last := last) (one := nd1)   (h_n := ⟨(Int.le_trans (by decide : (-2147483648 : Int) ≤ -2147483648) rx_n.1), (Int.le_trans rx_n.2 (by decide : (2147483647 : Int) ≤ 2147483647))⟩) (h_last := ⟨(Int.le_trans (by decide : (-2147483648 : Int) ≤ -2147483648) rx_last.1), (Int.le_trans rx_last.2 (by decide : (2147483647 : Int) ≤ 2147483647))⟩) (h_one := ⟨(Int.le_trans (by decide : (-2147483648 : Int) ≤ 0) b_nd1.1), (Int.le_trans b_nd1.2 (by decide : (6999 : Int) ≤ 2147483647))⟩)  (p_0 := by omega) (p_1 := by omega) (p_2 := by omega) (p_3 := by omega)) (fun o V' hq => ?_)
                      obtain ⟨G323, A324, rfl, rfl, hW325, hF326, hQ327, q328⟩ := hq
                      have hF329 := Fr_tr hF307 hF326 (Fr_sub (by decide)) (Fr_sub (by decide))
                      have hP330 := Pf_tr hP309 hQ327 (by omega)
                      have hS331 := Fx_f hS310 hF326 (by decide)
                      have hV332 := Fx_f hV311 hF326 (by decide)
                      have ec333 : ecn A324 (G323 31) = ec2_241 := (ecn_f (hF326.2 15 rfl) (hF326.1 31 rfl)).trans ec322
                      refine .inl ⟨rfl, ?_⟩
                      rcases q328 with ⟨a334, a335⟩ | ⟨a336, a337⟩
                      · have _q : True := trivial
                        have sf338 : ND A324 (n) (30) (0) (0) (0) (0) (nd1) (0) := ND_f a335 sf312
                        have sf339 : CI 1 A324 (sy2_237) pb (k) (Vs) (n) (nd1) (n + 1) (nd2_236) (sy) (sy2_237) := CI_one a335 (by omega) (by omega) (by omega) (by omega) (by omega) (by omega) (show RQ 1 A305 (sy2_237) pb (k) (Vs) (nd1) (nd1) (nd2_236) (sy1) (sy2_237) from wI_mk (m := nd2_82) sf315 (by omega) (by omega) (by omega) (wE_sb (by omega) (wE_mono (by omega) (by omega) (by omega) sf317)) (wP_eq sf319 (by omega) rfl rfl (by omega) rfl (by omega) rfl (by omega))) (NX_nd sf315) (CI_sb (by omega) sf313)
                        have sf340 : NdM A324 (nd) (nd1) (sy) := NdM_st a335 (by decide) sf314
                        have sf341 : ND A324 (nd1) (34) (r78) (0) (0) (0) (r232) (0) := ND_ag (by omega) (Ag_st a335 (by omega) (by omega)) sf315
                        have sf342 : NdM A324 (nd1) (nd1 + 1) (sy1) := NdM_st a335 (by decide) sf316
                        have sf343 : wE A324 Vs sb (2 * 9 + 2) (r78) (nd2_56) (nd2_82) := wE_ag (by omega) (Sg_ne a335 rfl) (Ag_st a335 (by omega) (by omega)) sf317
                        have sf344 : NdM A324 (nd2_56) (nd2_82) (sy1) := NdM_st a335 (by decide) sf318
                        have sf345 : wP A324 (sy2_237) pb (k) (Vs) (r232) (nd2_82) (nd2_236) (sy1) (sy2_237) := wP_ag (Sg_ne a335 rfl) (Qg_ne a335 rfl) (by omega) (by omega) (Ax_ag (Ag_st a335 (by omega) (by omega))) sf319
                        have sf346 : NX A324 (r232) := NX_r a335 (by decide) sf320
                        have sf347 : NdM A324 (nd2_82) (nd2_236) (sy1) := NdM_st a335 (by decide) sf321
                        refine jx_ld (pc' := 108) (l' := L298) (st' := [.int (i32 (nd1))]) rfl (jl_iload gL298_4) ?_
                        refine jx_ld (pc' := 109) (l' := jSto1 L298 3 (.int (i32 (nd1)))) (st' := []) rfl rfl ?_
                        obtain ⟨L348, eL348⟩ : ∃ q, q = jSto1 L298 3 (.int (i32 (nd1))) := ⟨_, rfl⟩
                        rw [← eL348]
                        have gL348_0 : jGet L348 0 = some (.ref 66) := eL348 ▸ jg_ne (by decide) gL298_0 rfl
                        have gL348_1 : jGet L348 1 = some (.int (i32 (lv))) := eL348 ▸ jg_ne (by decide) gL298_1 rfl
                        have gL348_2 : jGet L348 2 = some (.int (i32 (n))) := eL348 ▸ jg_ne (by decide) gL298_2 rfl
                        have gL348_4 : jGet L348 4 = some (.int (i32 (nd1))) := eL348 ▸ jg_ne (by decide) gL298_4 rfl
                        have gL348_5 : jGet L348 5 = some (.int (i32 (r232))) := eL348 ▸ jg_ne (by decide) gL298_5 rfl
                        have gL348_3 : jGet L348 3 = some (.int (i32 (nd1))) := eL348 ▸ jg_eq
                        refine jx_go (tg := 21) rfl rfl ?_
                        exact ih21 _ (by omega) L348 G323 A324 (n) (nd1) (ln2_233) (at2_234) (fk2_235) (nd2_236) (sy2_237) (na2_238) (vi2_239) (lf2_240) (ec2_241) rfl gL348_0 gL348_1 gL348_2 gL348_3 hW325 hF329 hP330 hS331 hV332 (((hF326.1 9 rfl).trans (e248))) (((hF326.1 10 rfl).trans (e249))) (((hF326.1 16 rfl).trans (e250))) (((hF326.1 31 rfl).trans (e251))) (((hF326.1 19 rfl).trans (e252))) (((hF326.1 28 rfl).trans (e253))) (((hF326.1 29 rfl).trans (e254))) ((congrFun ((hF326.2 3 rfl).trans ((congrFun eA305 3).trans (uA_ne (by decide)))) _).trans (e255)) (ec333) (by omega) (by omega) (by omega) (by omega) (by omega) (by omega) (by omega) (by omega) (by omega) (by omega) (by omega) (by omega) (by omega) (by omega) (by omega) (by omega) ((ND_sf sf338)) (sf339) (by omega) ((NdM_w (NdM_app (sy := sy) sf340 (NdM_app (sy := sy) sf342 (NdM_app (sy := sy) sf344 sf347 (by omega) (by omega) (by omega)) (by omega) (by omega) (by omega)) (by omega) (by omega) (by omega)) (by omega) (by omega) (by omega)))
                      · have _q : True := trivial
                        have sf349 : ND A324 (n) (30) (0) (0) (0) (0) (Ax 21 (n).toNat) (0) := ND_ag (by omega) (Ag_st a337 (by omega) (by omega)) sf312
                        have sf350 : CI 1 A324 (sy2_237) pb (k) (Vs) (n) (nd1) (n + 1) (nd2_236) (sy) (sy2_237) := CI_two a337 (by omega) (by omega) (by omega) (by omega) (by omega) (show RQ 1 A305 (sy2_237) pb (k) (Vs) (nd1) (nd1) (nd2_236) (sy1) (sy2_237) from wI_mk (m := nd2_82) sf315 (by omega) (by omega) (by omega) (wE_sb (by omega) (wE_mono (by omega) (by omega) (by omega) sf317)) (wP_eq sf319 (by omega) rfl rfl (by omega) rfl (by omega) rfl (by omega))) (NX_nd sf315) (CI_sb (by omega) sf313)
                        have sf351 : NdM A324 (nd) (nd1) (sy) := NdM_st a337 (by decide) sf314
                        have sf352 : ND A324 (nd1) (34) (r78) (0) (0) (0) (r232) (0) := ND_ag (by omega) (Ag_st a337 (by omega) (by omega)) sf315
                        have sf353 : NdM A324 (nd1) (nd1 + 1) (sy1) := NdM_st a337 (by decide) sf316
                        have sf354 : wE A324 Vs sb (2 * 9 + 2) (r78) (nd2_56) (nd2_82) := wE_ag (by omega) (Sg_ne a337 rfl) (Ag_st a337 (by omega) (by omega)) sf317
                        have sf355 : NdM A324 (nd2_56) (nd2_82) (sy1) := NdM_st a337 (by decide) sf318
                        have sf356 : wP A324 (sy2_237) pb (k) (Vs) (r232) (nd2_82) (nd2_236) (sy1) (sy2_237) := wP_ag (Sg_ne a337 rfl) (Qg_ne a337 rfl) (by omega) (by omega) (Ax_ag (Ag_st a337 (by omega) (by omega))) sf319
                        have sf357 : NX A324 (r232) := NX_ag (by omega) (Ag_st a337 (by omega) (by omega)) sf320
                        have sf358 : NdM A324 (nd2_82) (nd2_236) (sy1) := NdM_st a337 (by decide) sf321
                        refine jx_ld (pc' := 108) (l' := L298) (st' := [.int (i32 (nd1))]) rfl (jl_iload gL298_4) ?_
                        refine jx_ld (pc' := 109) (l' := jSto1 L298 3 (.int (i32 (nd1)))) (st' := []) rfl rfl ?_
                        obtain ⟨L359, eL359⟩ : ∃ q, q = jSto1 L298 3 (.int (i32 (nd1))) := ⟨_, rfl⟩
                        rw [← eL359]
                        have gL359_0 : jGet L359 0 = some (.ref 66) := eL359 ▸ jg_ne (by decide) gL298_0 rfl
                        have gL359_1 : jGet L359 1 = some (.int (i32 (lv))) := eL359 ▸ jg_ne (by decide) gL298_1 rfl
                        have gL359_2 : jGet L359 2 = some (.int (i32 (n))) := eL359 ▸ jg_ne (by decide) gL298_2 rfl
                        have gL359_4 : jGet L359 4 = some (.int (i32 (nd1))) := eL359 ▸ jg_ne (by decide) gL298_4 rfl
                        have gL359_5 : jGet L359 5 = some (.int (i32 (r232))) := eL359 ▸ jg_ne (by decide) gL298_5 rfl
                        have gL359_3 : jGet L359 3 = some (.int (i32 (nd1))) := eL359 ▸ jg_eq
                        refine jx_go (tg := 21) rfl rfl ?_
                        exact ih21 _ (by omega) L359 G323 A324 (n) (nd1) (ln2_233) (at2_234) (fk2_235) (nd2_236) (sy2_237) (na2_238) (vi2_239) (lf2_240) (ec2_241) rfl gL359_0 gL359_1 gL359_2 gL359_3 hW325 hF329 hP330 hS331 hV332 (((hF326.1 9 rfl).trans (e248))) (((hF326.1 10 rfl).trans (e249))) (((hF326.1 16 rfl).trans (e250))) (((hF326.1 31 rfl).trans (e251))) (((hF326.1 19 rfl).trans (e252))) (((hF326.1 28 rfl).trans (e253))) (((hF326.1 29 rfl).trans (e254))) ((congrFun ((hF326.2 3 rfl).trans ((congrFun eA305 3).trans (uA_ne (by decide)))) _).trans (e255)) (ec333) (by omega) (by omega) (by omega) (by omega) (by omega) (by omega) (by omega) (by omega) (by omega) (by omega) (by omega) (by omega) (by omega) (by omega) (by omega) (by omega) ((ND_sf sf349)) (sf350) (by omega) ((NdM_w (NdM_app (sy := sy) sf351 (NdM_app (sy := sy) sf353 (NdM_app (sy := sy) sf355 sf358 (by omega) (by omega) (by omega)) (by omega) (by omega) (by omega)) (by omega) (by omega) (by omega)) (by omega) (by omega) (by omega)))
                    · have _q := h304
                      exact absurd h304 (by omega)
              · have _q := h229
                exact absurd h229 (by omega)
          · have _q : True := trivial
            refine jx_ld (pc' := 61) (l' := L75) (st' := [.ref 66]) rfl (jl_aloadn gL75_0) ?_
            refine jx_vr (pc' := 64) (as := []) (st := []) rfl rfl rfl rfl ⟨rfl, rfl, Nat.le_of_ble_eq_true rfl⟩ rfl rfl (c_bad (dd := d) (hd := by omega) (hW := hW198)  (fk := fk2_197) (e_fk := show G194 16 = fk2_197 from (e201))    ) (fun o V' hq => ?_)
            obtain ⟨r360, rfl, rfl, b361, q362⟩ := hq
            refine .inr ⟨_, rfl, ?_⟩
            rcases q362 with ⟨rfl, a363⟩ | ⟨rfl, a364⟩
            · have _q : True := trivial
              refine jx_if_eq (pc' := 67) (tg := 71) rfl rfl rfl (by decide) (by decide) (fun h365 => ?_) (fun h365 => ?_)
              · have _q := h365
                exact absurd h365 (by omega)
              · have _q := h365
                refine jx_ar (pc' := 68) (st' := [.int (i32 (0))]) rfl rfl rfl rfl ?_
                refine jx_go (tg := 78) rfl rfl ?_
                refine jx_ld (pc' := 80) (l' := jSto1 L75 5 (.int (i32 (0)))) (st' := []) rfl rfl ?_
                obtain ⟨L366, eL366⟩ : ∃ q, q = jSto1 L75 5 (.int (i32 (0))) := ⟨_, rfl⟩
                rw [← eL366]
                have gL366_0 : jGet L366 0 = some (.ref 66) := eL366 ▸ jg_ne (by decide) gL75_0 rfl
                have gL366_1 : jGet L366 1 = some (.int (i32 (lv))) := eL366 ▸ jg_ne (by decide) gL75_1 rfl
                have gL366_2 : jGet L366 2 = some (.int (i32 (n))) := eL366 ▸ jg_ne (by decide) gL75_2 rfl
                have gL366_3 : jGet L366 3 = some (.int (i32 (last))) := eL366 ▸ jg_ne (by decide) gL75_3 rfl
                have gL366_4 : jGet L366 4 = some (.int (i32 (nd1))) := eL366 ▸ jg_ne (by decide) gL75_4 rfl
                have gL366_5 : jGet L366 5 = some (.int (i32 (0))) := eL366 ▸ jg_eq
                refine jx_ld (pc' := 81) (l' := L366) (st' := [.ref 66]) rfl (jl_aloadn gL366_0) ?_
                refine jx_vr (pc' := 84) (as := []) (st := []) rfl rfl rfl rfl ⟨rfl, rfl, Nat.le_of_ble_eq_true rfl⟩ rfl rfl (c_bad (dd := d) (hd := by omega) (hW := hW198)  (fk := fk2_197) (e_fk := show G194 16 = fk2_197 from (e201))    ) (fun o V' hq => ?_)
                obtain ⟨r367, rfl, rfl, b368, q369⟩ := hq
                refine .inr ⟨_, rfl, ?_⟩
                rcases q369 with ⟨rfl, a370⟩ | ⟨rfl, a371⟩
                · have _q : True := trivial
                  refine jx_if_eq (pc' := 87) (tg := 89) rfl rfl rfl (by decide) (by decide) (fun h372 => ?_) (fun h372 => ?_)
                  · have _q := h372
                    exact absurd h372 (by omega)
                  · have _q := h372
                    refine jx_ar (pc' := 88) (st' := [.int (i32 (0))]) rfl rfl rfl rfl ?_
                    refine jx_rt (v := some (.int (i32 (0)))) rfl rfl rfl rfl rfl rfl ?_
                    exact ⟨_, _, _, ln2_196, at2_79, fk2_197, nd2_82, sy1, na1, vi1, A 3 (ln2_196).toNat, ec2_84, rfl, rfl, hW198, hF203, hP204, hS205, hV206, by omega, (e200), ((hF199.1 10 rfl).trans (e89)), (e201), ((hF199.1 31 rfl).trans (e92)), ((hF199.1 19 rfl).trans ((hF86.1 19 rfl).trans ((hF59.1 19 rfl).trans ((hF36.1 19 rfl).trans ((hF7.1 19 rfl).trans (ex_sy1)))))), ((hF199.1 28 rfl).trans ((hF86.1 28 rfl).trans ((hF59.1 28 rfl).trans ((hF36.1 28 rfl).trans ((hF7.1 28 rfl).trans (ex_na1)))))), ((hF199.1 29 rfl).trans ((hF86.1 29 rfl).trans ((hF59.1 29 rfl).trans ((hF36.1 29 rfl).trans ((hF7.1 29 rfl).trans (ex_vi1)))))), (congrFun ((hF199.2 3 rfl).trans (((congrFun eA179 3).trans (uA_ne (by decide))).trans ((hF86.2 3 rfl).trans ((hF59.2 3 rfl).trans ((hF36.2 3 rfl).trans ((hF7.2 3 rfl).trans (hFx.2 3 rfl))))))) _), ec214, by omega, by omega, by omega, by omega, by omega, by omega, by omega, by omega, by omega, by omega, by first | exact Or.inl (⟨by omega, by omega⟩)⟩
                · have _q : True := trivial
                  exfalso
                  omega
            · have _q : True := trivial
              exfalso
              omega
    · have _q : True := trivial
      refine jx_if_eq (pc' := 29) (tg := 112) rfl rfl rfl (by decide) (by decide) (fun h373 => ?_) (fun h373 => ?_)
      · have _q := h373
        refine jx_ld (pc' := 113) (l' := L) (st' := [.ref 66]) rfl (jl_aloadn gL_0) ?_
        refine jx_vr (pc' := 116) (as := []) (st := []) rfl rfl rfl rfl ⟨rfl, rfl, Nat.le_of_ble_eq_true rfl⟩ rfl rfl (c_bad (dd := d) (hd := by omega) (hW := hW6)  (fk := fk2_5) (e_fk := show G2 16 = fk2_5 from (e9))    ) (fun o V' hq => ?_)
        obtain ⟨r374, rfl, rfl, b375, q376⟩ := hq
        refine .inr ⟨_, rfl, ?_⟩
        rcases q376 with ⟨rfl, a377⟩ | ⟨rfl, a378⟩
        · have _q : True := trivial
          refine jx_if_ne (pc' := 119) (tg := 131) rfl rfl rfl (by decide) (by decide) (fun h379 => ?_) (fun h379 => ?_)
          · have _q := h379
            refine jx_ld (pc' := 132) (l' := L) (st' := [.int (i32 (n))]) rfl (jl_iloadn gL_2) ?_
            refine jx_rt (v := some (.int (i32 (n)))) rfl rfl rfl rfl rfl rfl ?_
            exact ⟨_, _, _, ln1, at1, fk2_5, nd1, sy1, na1, vi1, lf1, ec1, rfl, rfl, hW6, hF11, hP12, hS13, hV14, by omega, ((hF7.1 9 rfl).trans (ex_ln1)), ((hF7.1 10 rfl).trans (ex_at1)), (e9), ((hF7.1 31 rfl).trans (ex_nd1)), ((hF7.1 19 rfl).trans (ex_sy1)), ((hF7.1 28 rfl).trans (ex_na1)), ((hF7.1 29 rfl).trans (ex_vi1)), (congrFun (hF7.2 3 rfl) _).trans (ex_lf1), ec18, by omega, by omega, by omega, by omega, by omega, by omega, by omega, by omega, by omega, by omega, by first | exact Or.inl (⟨by omega, by omega⟩)⟩
          · have _q := h379
            exact absurd h379 (by omega)
        · have _q : True := trivial
          exfalso
          omega
      · have _q := h373
        exact absurd h373 (by omega)
    · have _q : True := trivial
      refine jx_if_eq (pc' := 29) (tg := 112) rfl rfl rfl (by decide) (by decide) (fun h380 => ?_) (fun h380 => ?_)
      · have _q := h380
        refine jx_ld (pc' := 113) (l' := L) (st' := [.ref 66]) rfl (jl_aloadn gL_0) ?_
        refine jx_vr (pc' := 116) (as := []) (st := []) rfl rfl rfl rfl ⟨rfl, rfl, Nat.le_of_ble_eq_true rfl⟩ rfl rfl (c_bad (dd := d) (hd := by omega) (hW := hW6)  (fk := fk2_5) (e_fk := show G2 16 = fk2_5 from (e9))    ) (fun o V' hq => ?_)
        obtain ⟨r381, rfl, rfl, b382, q383⟩ := hq
        refine .inr ⟨_, rfl, ?_⟩
        rcases q383 with ⟨rfl, a384⟩ | ⟨rfl, a385⟩
        · have _q : True := trivial
          exfalso
          omega
        · have _q : True := trivial
          refine jx_if_ne (pc' := 119) (tg := 131) rfl rfl rfl (by decide) (by decide) (fun h386 => ?_) (fun h386 => ?_)
          · have _q := h386
            exact absurd h386 (by omega)
          · have _q := h386
            refine jx_ld (pc' := 120) (l' := L) (st' := [.int (i32 (last))]) rfl (jl_iloadn gL_3) ?_
            refine jx_if_ne (pc' := 123) (tg := 131) rfl rfl rfl (Int.le_trans (by decide : (-2147483648 : Int) ≤ -2147483648) rx_last.1) (Int.le_trans rx_last.2 (by decide : (2147483647 : Int) ≤ 2147483647)) (fun h387 => ?_) (fun h387 => ?_)
            · have _q := h387
              refine jx_ld (pc' := 132) (l' := L) (st' := [.int (i32 (n))]) rfl (jl_iloadn gL_2) ?_
              refine jx_rt (v := some (.int (i32 (n)))) rfl rfl rfl rfl rfl rfl ?_
              exact ⟨_, _, _, ln1, at1, fk2_5, nd1, sy1, na1, vi1, lf1, ec1, rfl, rfl, hW6, hF11, hP12, hS13, hV14, by omega, ((hF7.1 9 rfl).trans (ex_ln1)), ((hF7.1 10 rfl).trans (ex_at1)), (e9), ((hF7.1 31 rfl).trans (ex_nd1)), ((hF7.1 19 rfl).trans (ex_sy1)), ((hF7.1 28 rfl).trans (ex_na1)), ((hF7.1 29 rfl).trans (ex_vi1)), (congrFun (hF7.2 3 rfl) _).trans (ex_lf1), ec18, by omega, by omega, by omega, by omega, by omega, by omega, by omega, by omega, by omega, by omega, by first | exact Or.inr ((⟨by omega, by omega, by omega, by omega, by omega, by omega, by omega, (wS_ifc sf15 (CI_eq (CI_sb (by omega) sf16) rfl (by omega) (by omega) (by omega) (by omega)) (by omega)), (NX_nd sf15), by omega, sf17⟩))⟩
            · have _q := h387
              refine jx_ld (pc' := 124) (l' := L) (st' := [.ref 66]) rfl (jl_aloadn gL_0) ?_
              refine jx_ld (pc' := 125) (l' := L) (st' := [.int (i32 (lv)), .ref 66]) rfl (jl_iloadn gL_1) ?_
              refine jx_ar (pc' := 126) (st' := [.int (i32 (1)), .int (i32 (lv)), .ref 66]) rfl rfl rfl rfl ?_
              refine jx_add (pc' := 127) rfl rfl ?_
              refine jx_vr (pc' := 130) (as := [.int (i32 ((lv + 1)))]) (st := []) rfl rfl rfl rfl ⟨rfl, rfl, Nat.le_of_ble_eq_true rfl⟩ rfl rfl (c_needLevel (dd := d) (hd := by omega) (hW := hW6) (lv := (lv + 1)) (ln := ln1) (e_ln := show G2 9 = ln1 from ((hF7.1 9 rfl).trans (ex_ln1))) (li := li) (e_li := show G2 3 = li from ((hF7.1 3 rfl).trans ((hFx.1 3 rfl).trans (e_li)))) (fk := fk2_5) (e_fk := show G2 16 = fk2_5 from (e9)) (ll := A 5 (ln1).toNat) (e_ll := show A3 5 (ln1).toNat = A 5 (ln1).toNat from (congrFun ((hF7.2 5 rfl).trans (hFx.2 5 rfl)) _))  (h_lv := ⟨(by omega), (by omega)⟩)  ) (fun o V' hq => ?_)
              obtain ⟨G388, A389, r390, fk2_391, rfl, rfl, hW392, hF393, b394, e395, q396⟩ := hq
              have hF397 := Fr_tr hF11 hF393 (Fr_sub (by decide)) (Fr_sub (by decide))
              have hP398 := Pf_f hP12 hF393 (by decide)
              have hS399 := Fx_f hS13 hF393 (by decide)
              have hV400 := Fx_f hV14 hF393 (by decide)
              have sf401 : ND A389 (n) (30) (0) (0) (0) (0) (Ax 21 (n).toNat) (0) := ND_ag (by omega) (Ag_fr hF393 (by decide)) sf15
              have sf402 : CI 1 A389 (sy1) pb (k) (Vs) (n) (last) (n + 1) (nd1) (sy) (sy1) := CI_ag (by omega) (by omega) (Sg_fr hF393 (by decide)) (Qg_fr hF393 (by decide)) (Ag_fr hF393 (by decide)) (congrFun (hF393.2 21 rfl) _) sf16
              have sf403 : NdM A389 (nd) (nd1) (sy) := NdM_f hF393 (by decide) sf17
              have ec404 : ecn A389 (G388 31) = ec1 := (ecn_f (hF393.2 15 rfl) (hF393.1 31 rfl)).trans ec18
              have bfk2_391 : (0 : Int) ≤ fk2_391 ∧ fk2_391 ≤ 6 := e395 ▸ hW392.1 16
              refine .inr ⟨_, rfl, ?_⟩
              rcases q396 with ⟨rfl, a405, a406, a407, a408⟩ | ⟨rfl, a409⟩
              · have _q : True := trivial
                have b410 : (0 : Int) ≤ A 4 (ln1).toNat ∧ A 4 (ln1).toNat ≤ 3000 := hW.2 4 _
                have lt411 : lf1 < A 4 (ln1).toNat := LT_at (LT_ext (((hF393.1 3 rfl).trans ((hF7.1 3 rfl).trans (hFx.1 3 rfl)))) (((hF393.2 3 rfl).trans ((hF7.2 3 rfl).trans (hFx.2 3 rfl)))) (((hF393.2 4 rfl).trans ((hF7.2 4 rfl).trans (hFx.2 4 rfl)))) i_LT) (show G388 3 = li from ((hF393.1 3 rfl).trans ((hF7.1 3 rfl).trans ((hFx.1 3 rfl).trans (e_li))))) (show A389 3 (ln1).toNat = lf1 from (congrFun ((hF393.2 3 rfl).trans (hF7.2 3 rfl)) _).trans (ex_lf1)) (show A389 4 (ln1).toNat = A 4 (ln1).toNat from (congrFun ((hF393.2 4 rfl).trans ((hF7.2 4 rfl).trans (hFx.2 4 rfl))) _)) (by omega) (by omega)
                refine jx_ar (pc' := 131) (st' := []) rfl rfl rfl rfl ?_
                refine jx_ld (pc' := 132) (l' := L) (st' := [.int (i32 (n))]) rfl (jl_iloadn gL_2) ?_
                refine jx_rt (v := some (.int (i32 (n)))) rfl rfl rfl rfl rfl rfl ?_
                exact ⟨_, _, _, ln1, at1, fk2_391, nd1, sy1, na1, vi1, lf1, ec1, rfl, rfl, hW392, hF397, hP398, hS399, hV400, by omega, ((hF393.1 9 rfl).trans ((hF7.1 9 rfl).trans (ex_ln1))), ((hF393.1 10 rfl).trans ((hF7.1 10 rfl).trans (ex_at1))), (e395), ((hF393.1 31 rfl).trans ((hF7.1 31 rfl).trans (ex_nd1))), ((hF393.1 19 rfl).trans ((hF7.1 19 rfl).trans (ex_sy1))), ((hF393.1 28 rfl).trans ((hF7.1 28 rfl).trans (ex_na1))), ((hF393.1 29 rfl).trans ((hF7.1 29 rfl).trans (ex_vi1))), (congrFun ((hF393.2 3 rfl).trans (hF7.2 3 rfl)) _).trans (ex_lf1), ec404, by omega, by omega, by omega, by omega, by omega, by omega, by omega, by omega, by omega, by omega, by first | exact Or.inr ((⟨by omega, by omega, by omega, by omega, by omega, by omega, by omega, (wS_ifc sf401 (CI_eq (CI_sb (by omega) sf402) rfl (by omega) (by omega) (by omega) (by omega)) (by omega)), (NX_nd sf401), by omega, sf403⟩))⟩
              · have _q : True := trivial
                refine jx_ar (pc' := 131) (st' := []) rfl rfl rfl rfl ?_
                refine jx_ld (pc' := 132) (l' := L) (st' := [.int (i32 (n))]) rfl (jl_iloadn gL_2) ?_
                refine jx_rt (v := some (.int (i32 (n)))) rfl rfl rfl rfl rfl rfl ?_
                exact ⟨_, _, _, ln1, at1, fk2_391, nd1, sy1, na1, vi1, lf1, ec1, rfl, rfl, hW392, hF397, hP398, hS399, hV400, by omega, ((hF393.1 9 rfl).trans ((hF7.1 9 rfl).trans (ex_ln1))), ((hF393.1 10 rfl).trans ((hF7.1 10 rfl).trans (ex_at1))), (e395), ((hF393.1 31 rfl).trans ((hF7.1 31 rfl).trans (ex_nd1))), ((hF393.1 19 rfl).trans ((hF7.1 19 rfl).trans (ex_sy1))), ((hF393.1 28 rfl).trans ((hF7.1 28 rfl).trans (ex_na1))), ((hF393.1 29 rfl).trans ((hF7.1 29 rfl).trans (ex_vi1))), (congrFun ((hF393.2 3 rfl).trans (hF7.2 3 rfl)) _).trans (ex_lf1), ec404, by omega, by omega, by omega, by omega, by omega, by omega, by omega, by omega, by omega, by omega, by first | exact Or.inl (⟨by omega, by omega⟩)⟩
      · have _q := h380
        exact absurd h380 (by omega)
set_option maxRecDepth 20000 in
set_option maxHeartbeats 4000000 in
theorem c_readIf_w {X : jX} {k : Nat} (hP : RPw X k) {dd : Nat} {Vs : Nat → Prop} {sb pb : Int} (hvb : VB Vs sb) {c0 c1 : jC} {G : Nat → Int} {A : Nat → Nat → Int} {T : jH} {lv : Int} {ln li at0 fk nd sy na vi le op0 tk0 ec : Int} (hd : 8 * k + 82 ≤ dd) (hW : Wk G A) (e_ln : G 9 = ln) (e_li : G 3 = li) (e_at0 : G 10 = at0) (e_fk : G 16 = fk) (e_nd : G 31 = nd) (e_sy : G 19 = sy) (e_na : G 28 = na) (e_vi : G 29 = vi) (e_le : A 4 (ln).toNat = le) (e_op0 : G 15 = op0) (e_tk0 : G 11 = tk0) (e_ec : ecn A (G 31) = ec) (i_LT : LT G A) (i_SV : SV Vs sb G A) (i_PQ : PQ Vs sb pb G A) (h_lv : (-2147483648 : Int) ≤ lv ∧ lv ≤ 2147483647) (p_0 : 0 ≤ lv ∧ lv ≤ 15) (p_1 : 18 - lv ≤ ((k + 1 : Nat) : Int)) (p_2 : fk = 0) (p_3 : ln < li) (p_4 : at0 ≤ le) (p_5 : op0 = 0) (p_6 : nd ≤ 2 * at0 - tz tk0 + 30) (p_7 : sy ≤ na + 2) (p_8 : vi ≤ sy) (p_9 : sb = sy) (p_10 : 1 ≤ tk0) : wk X dd 301 [.ref 66, .int (i32 lv)] (rV c0 c1 G A T) (fun o V' => ∃ (G' : Nat → Int) (A' : Nat → Nat → Int) (r : Int) (ln2 : Int) (at2 : Int) (fk2 : Int) (nd2 : Int) (sy2 : Int) (na2 : Int) (vi2 : Int) (lf2 : Int) (ec2 : Int), V' = rV c0 c1 G' A' T ∧ o = .inl (some (.int (i32 r))) ∧ Wk G' A' ∧ Fr [9, 10, 11, 12, 13, 14, 15, 16, 17, 18, 19, 28, 29, 31] [6, 7, 8, 9, 10, 11, 12, 14, 15, 16, 17, 18, 19, 20, 21, 22, 23, 24, 28] G A G' A' ∧ Pf nd A A' ∧ Fx sr (sy) A A' ∧ Fx [14] (vi) A A' ∧ ((-2147483648 : Int) ≤ r ∧ r ≤ 2147483647) ∧ G' 9 = ln2 ∧ G' 10 = at2 ∧ G' 16 = fk2 ∧ G' 31 = nd2 ∧ G' 19 = sy2 ∧ G' 28 = na2 ∧ G' 29 = vi2 ∧ A' 3 (ln2).toNat = lf2 ∧ ecn A' (G' 31) = ec2 ∧ (at0 ≤ at2) ∧ (nd ≤ nd2) ∧ (sy ≤ sy2) ∧ (sy2 ≤ na2 + 2) ∧ (vi ≤ vi2) ∧ (vi2 ≤ vi + 1) ∧ (0 ≤ r) ∧ (r ≤ 6999) ∧ (ln ≤ ln2) ∧ (ln2 ≤ li) ∧ (((1 ≤ fk2) ∧ (nd2 - nd ≤ 2 * at2 - (2 * at0 - tz tk0) + 14)) ∨ ((fk2 = 0) ∧ (vi2 = vi) ∧ (ln < ln2) ∧ (nd2 - nd ≤ 2 * at2 - (2 * at0 - tz tk0)) ∧ (at2 < lf2 ∨ li ≤ ln2) ∧ (nd ≤ r) ∧ (r < nd2) ∧ (wSt A' (sy2) pb (wP A' (sy2) pb (k)) (Vs) (r) (nd) (nd2) (sy) (sy2)) ∧ (NX A' (r)) ∧ (nd2 - nd + 5 * (ec2 - ec) ≤ 2 * at2 - (2 * at0 - tz tk0)) ∧ (NdM A' (nd) (nd2) (sy))))) := by
  obtain ⟨d, rfl⟩ : ∃ d, dd = d + 1 := ⟨dd - 1, by omega⟩
  refine wk_of (e := jm301) rfl (Nat.le_of_ble_eq_true rfl) ?_
  show wj X d jm301 (0, [(0, .ref 66), (1, .int (i32 (lv)))], [], rV c0 c1 G A T) _
  have hF0 : Fr [9, 10, 11, 12, 13, 14, 15, 16, 17, 18, 19, 28, 29, 31] [6, 7, 8, 9, 10, 11, 12, 14, 15, 16, 17, 18, 19, 20, 21, 22, 23, 24, 28] G A G A := Fr_rf
  have hP0 : Pf nd A A := Pf_rf
  have hS0 : Fx sr (sy) A A := Fx_rf
  have hV0 : Fx [14] (vi) A A := Fx_rf
  have b_ln : (0 : Int) ≤ ln ∧ ln ≤ 3000 := e_ln ▸ hW.1 9
  have b_li : (0 : Int) ≤ li ∧ li ≤ 3000 := e_li ▸ hW.1 3
  have b_at0 : (0 : Int) ≤ at0 ∧ at0 ≤ 3002 := e_at0 ▸ hW.1 10
  have b_fk : (0 : Int) ≤ fk ∧ fk ≤ 6 := e_fk ▸ hW.1 16
  have b_nd : (0 : Int) ≤ nd ∧ nd ≤ 6999 := e_nd ▸ hW.1 31
  have b_sy : (0 : Int) ≤ sy ∧ sy ≤ 202 := e_sy ▸ hW.1 19
  have b_na : (0 : Int) ≤ na ∧ na ≤ 200 := e_na ▸ hW.1 28
  have b_vi : (0 : Int) ≤ vi ∧ vi ≤ 202 := e_vi ▸ hW.1 29
  have b_le : (0 : Int) ≤ le ∧ le ≤ 3000 := e_le ▸ hW.2 4 _
  have b_op0 : (-2147483648 : Int) ≤ op0 ∧ op0 ≤ 2147483647 := e_op0 ▸ hW.1 15
  have z_tk0 := tz_f tk0
  have b_tk0 : (0 : Int) ≤ tk0 ∧ tk0 ≤ 5 := e_tk0 ▸ hW.1 11
  refine jx_ld (pc' := 1) (l' := [(0, .ref 66), (1, .int (i32 (lv)))]) (st' := [.ref 66]) rfl (jl_aloadn rfl) ?_
  refine jx_ar (pc' := 3) (st' := [.int (i32 (30)), .ref 66]) rfl rfl rfl rfl ?_
  refine jx_ar (pc' := 4) (st' := [.int (i32 (0)), .int (i32 (30)), .ref 66]) rfl rfl rfl rfl ?_
  refine jx_ar (pc' := 5) (st' := [.int (i32 (0)), .int (i32 (0)), .int (i32 (30)), .ref 66]) rfl rfl rfl rfl ?_
  refine jx_ar (pc' := 6) (st' := [.int (i32 (0)), .int (i32 (0)), .int (i32 (0)), .int (i32 (30)), .ref 66]) rfl rfl rfl rfl ?_
  refine jx_ar (pc' := 7) (st' := [.int (i32 (0)), .int (i32 (0)), .int (i32 (0)), .int (i32 (0)), .int (i32 (30)), .ref 66]) rfl rfl rfl rfl ?_
  refine jx_vr (pc' := 10) (as := [.int (i32 (30)), .int (i32 (0)), .int (i32 (0)), .int (i32 (0)), .int (i32 (0))]) (st := []) rfl rfl rfl rfl ⟨rfl, rfl, Nat.le_of_ble_eq_true rfl⟩ rfl rfl (c_node_o (dd := d) (hd := by omega) (hW := hW) (kind := 30) (a := 0) (b := 0) (c := 0) (e := 0) (nd := nd) (e_nd := show G 31 = nd from (e_nd)) (ec := ec) (e_ec := show ecn A (G 31) = ec from e_ec) (sy := sy) (e_sy := show G 19 = sy from (e_sy))  (h_kind := ⟨(by decide), (by decide)⟩) (h_a := ⟨(by decide), (by decide)⟩) (h_b := ⟨(by decide), (by decide)⟩) (h_c := ⟨(by decide), (by decide)⟩) (h_e := ⟨(by decide), (by decide)⟩)  (p_0 := by omega) (p_1 := by omega) (p_2 := by omega)) (fun o V' hq => ?_)
  obtain ⟨G412, A413, nd2_414, ec2_415, rfl, rfl, hW416, hF417, hQ418, e419, e420, p421, p422, p423, p424, -⟩ := hq
  have hF426 := Fr_tr hF0 hF417 (Fr_sub (by decide)) (Fr_sub (by decide))
  have hP427 := Pf_tr hP0 hQ418 (by omega)
  have hS428 := Fx_f hS0 hF417 (by decide)
  have hV429 := Fx_f hV0 hF417 (by decide)
  have bnd2_414 : (0 : Int) ≤ nd2_414 ∧ nd2_414 ≤ 6999 := e419 ▸ hW416.1 31
  refine .inr ⟨_, rfl, ?_⟩
  refine jx_ld (pc' := 11) (l' := jSto1 [(0, .ref 66), (1, .int (i32 (lv)))] 2 (.int (i32 (nd)))) (st' := []) rfl rfl ?_
  obtain ⟨L430, eL430⟩ : ∃ q, q = jSto1 [(0, .ref 66), (1, .int (i32 (lv)))] 2 (.int (i32 (nd))) := ⟨_, rfl⟩
  rw [← eL430]
  have gL430_0 : jGet L430 0 = some (.ref 66) := eL430 ▸ jg_ne (by decide) (rfl : jGet [(0, .ref 66), (1, .int (i32 (lv)))] 0 = some (.ref 66)) rfl
  have gL430_1 : jGet L430 1 = some (.int (i32 (lv))) := eL430 ▸ jg_ne (by decide) (rfl : jGet [(0, .ref 66), (1, .int (i32 (lv)))] 1 = some (.int (i32 (lv)))) rfl
  have gL430_2 : jGet L430 2 = some (.int (i32 (nd))) := eL430 ▸ jg_eq
  refine jx_ld (pc' := 12) (l' := L430) (st' := [.ref 66]) rfl (jl_aloadn gL430_0) ?_
  refine jx_vr (pc' := 15) (as := []) (st := []) rfl rfl rfl rfl ⟨rfl, rfl, Nat.le_of_ble_eq_true rfl⟩ rfl rfl (c_next (dd := d) (hd := by omega) (hW := hW416)  (ln := ln) (e_ln := show G412 9 = ln from ((hF417.1 9 rfl).trans (e_ln))) (le := le) (e_le := show A413 4 (ln).toNat = le from (congrFun (hF417.2 4 rfl) _).trans (e_le)) (at0 := at0) (e_at0 := show G412 10 = at0 from ((hF417.1 10 rfl).trans (e_at0)))    (p_0 := by omega)) (fun o V' hq => ?_)
  obtain ⟨G431, A432, at2_433, tk2_434, rfl, rfl, hW435, hF436, e437, e438, p439, p440, p441, -⟩ := hq
  have hF443 := Fr_tr hF426 hF436 (Fr_sub (by decide)) (Fr_sub (by decide))
  have hP444 := Pf_f hP427 hF436 (by decide)
  have hS445 := Fx_f hS428 hF436 (by decide)
  have hV446 := Fx_f hV429 hF436 (by decide)
  have sf447 : ND A432 (nd) (30) (0) (0) (0) (0) (0) (0) := ND_ag (by omega) (Ag_fr hF436 (by decide)) p423
  have sf448 : NdM A432 (nd) (nd + 1) (sy) := NdM_f hF436 (by decide) p424
  have ec449 : ecn A432 (G431 31) = ec2_415 := (ecn_f (hF436.2 15 rfl) (hF436.1 31 rfl)).trans e420
  have bat2_433 : (0 : Int) ≤ at2_433 ∧ at2_433 ≤ 3002 := e437 ▸ hW435.1 10
  have ztk2_434 := tz_b tk2_434
  have btk2_434 : (0 : Int) ≤ tk2_434 ∧ tk2_434 ≤ 5 := e438 ▸ hW435.1 11
  refine .inl ⟨rfl, ?_⟩
  have pz450 : at0 + tz tk2_434 ≤ at2_433 := by omega
  refine jx_ld (pc' := 16) (l' := L430) (st' := [.ref 66]) rfl (jl_aloadn gL430_0) ?_
  refine jx_vr (pc' := 19) (as := []) (st := []) rfl rfl rfl rfl ⟨rfl, rfl, Nat.le_of_ble_eq_true rfl⟩ rfl rfl (c_endLine (dd := d) (hd := by omega) (hW := hW435)  (ln := ln) (e_ln := show G431 9 = ln from ((hF436.1 9 rfl).trans ((hF417.1 9 rfl).trans (e_ln)))) (li := li) (e_li := show G431 3 = li from ((hF436.1 3 rfl).trans ((hF417.1 3 rfl).trans (e_li)))) (fk := fk) (e_fk := show G431 16 = fk from ((hF436.1 16 rfl).trans ((hF417.1 16 rfl).trans (e_fk)))) (tk0 := tk2_434) (e_tk0 := show G431 11 = tk2_434 from (e438))    (p_0 := by omega)) (fun o V' hq => ?_)
  obtain ⟨G451, A452, ln2_453, fk2_454, rfl, rfl, hW455, hF456, e457, e458, q459⟩ := hq
  have hF460 := Fr_tr hF443 hF456 (Fr_sub (by decide)) (Fr_sub (by decide))
  have hP461 := Pf_f hP444 hF456 (by decide)
  have hS462 := Fx_f hS445 hF456 (by decide)
  have hV463 := Fx_f hV446 hF456 (by decide)
  have sf464 : ND A452 (nd) (30) (0) (0) (0) (0) (0) (0) := ND_ag (by omega) (Ag_fr hF456 (by decide)) sf447
  have sf465 : NdM A452 (nd) (nd + 1) (sy) := NdM_f hF456 (by decide) sf448
  have ec466 : ecn A452 (G451 31) = ec2_415 := (ecn_f (hF456.2 15 rfl) (hF456.1 31 rfl)).trans ec449
  have bln2_453 : (0 : Int) ≤ ln2_453 ∧ ln2_453 ≤ 3000 := e457 ▸ hW455.1 9
  have bfk2_454 : (0 : Int) ≤ fk2_454 ∧ fk2_454 ≤ 6 := e458 ▸ hW455.1 16
  refine .inl ⟨rfl, ?_⟩
  rcases q459 with ⟨a467, a468, a469, a470, a471⟩ | ⟨a472, a473⟩
  · have _q : True := trivial
    have b474 : (0 : Int) ≤ A 3 (ln2_453).toNat ∧ A 3 (ln2_453).toNat ≤ 3000 := hW.2 3 _
    have lt475 : ln2_453 < li → le < A 3 (ln2_453).toNat := fun hh => LT_nx (LT_ext (((hF456.1 3 rfl).trans ((hF436.1 3 rfl).trans (hF417.1 3 rfl)))) (((hF456.2 3 rfl).trans ((hF436.2 3 rfl).trans (hF417.2 3 rfl)))) (((hF456.2 4 rfl).trans ((hF436.2 4 rfl).trans (hF417.2 4 rfl)))) i_LT) (show G451 3 = li from ((hF456.1 3 rfl).trans ((hF436.1 3 rfl).trans ((hF417.1 3 rfl).trans (e_li))))) (show A452 4 (ln).toNat = le from (congrFun ((hF456.2 4 rfl).trans ((hF436.2 4 rfl).trans (hF417.2 4 rfl))) _).trans (e_le)) (show A452 3 (ln2_453).toNat = A 3 (ln2_453).toNat from (congrFun ((hF456.2 3 rfl).trans ((hF436.2 3 rfl).trans (hF417.2 3 rfl))) _)) (show ln2_453 = ln + 1 by omega) (by omega) hh
    refine jx_ar (pc' := 20) (st' := [.int (i32 (0))]) rfl rfl rfl rfl ?_
    refine jx_ld (pc' := 21) (l' := jSto1 L430 3 (.int (i32 (0)))) (st' := []) rfl rfl ?_
    obtain ⟨L476, eL476⟩ : ∃ q, q = jSto1 L430 3 (.int (i32 (0))) := ⟨_, rfl⟩
    rw [← eL476]
    have gL476_0 : jGet L476 0 = some (.ref 66) := eL476 ▸ jg_ne (by decide) gL430_0 rfl
    have gL476_1 : jGet L476 1 = some (.int (i32 (lv))) := eL476 ▸ jg_ne (by decide) gL430_1 rfl
    have gL476_2 : jGet L476 2 = some (.int (i32 (nd))) := eL476 ▸ jg_ne (by decide) gL430_2 rfl
    have gL476_3 : jGet L476 3 = some (.int (i32 (0))) := eL476 ▸ jg_eq
    exact c_readIf_w_at_21 (X := X) (k := k) (hP := hP) (d := d) (Vs := Vs) (sb := sb) (pb := pb) (hvb := hvb) (c0 := c0) (c1 := c1) (G := G) (A := A) (T := T) (lv := lv) (ln := ln) (li := li) (at0 := at0) (fk := fk) (nd := nd) (sy := sy) (na := na) (vi := vi) (le := le) (op0 := op0) (tk0 := tk0) (ec := ec) (hd := hd) (hW := hW) (e_ln := e_ln) (e_li := e_li) (e_at0 := e_at0) (e_fk := e_fk) (e_nd := e_nd) (e_sy := e_sy) (e_na := e_na) (e_vi := e_vi) (e_le := e_le) (e_op0 := e_op0) (e_tk0 := e_tk0) (e_ec := e_ec) (i_LT := i_LT) (i_SV := i_SV) (i_PQ := i_PQ) (h_lv := h_lv) (p_0 := p_0) (p_1 := p_1) (p_2 := p_2) (p_3 := p_3) (p_4 := p_4) (p_5 := p_5) (p_6 := p_6) (p_7 := p_7) (p_8 := p_8) (p_9 := p_9) (p_10 := p_10) _ L476 G451 A452 (nd) (0) (ln2_453) (at2_433) (fk2_454) (nd2_414) (sy) (na) (vi) (A 3 (ln2_453).toNat) (ec2_415) rfl gL476_0 gL476_1 gL476_2 gL476_3 hW455 hF460 hP461 hS462 hV463 ((e457)) (((hF456.1 10 rfl).trans (e437))) ((e458)) (((hF456.1 31 rfl).trans ((hF436.1 31 rfl).trans (e419)))) (((hF456.1 19 rfl).trans ((hF436.1 19 rfl).trans ((hF417.1 19 rfl).trans (e_sy))))) (((hF456.1 28 rfl).trans ((hF436.1 28 rfl).trans ((hF417.1 28 rfl).trans (e_na))))) (((hF456.1 29 rfl).trans ((hF436.1 29 rfl).trans ((hF417.1 29 rfl).trans (e_vi))))) ((congrFun ((hF456.2 3 rfl).trans ((hF436.2 3 rfl).trans (hF417.2 3 rfl))) _)) (ec466) (by omega) (by omega) (by omega) (by omega) (by omega) (by omega) (by omega) (by omega) (by omega) (by omega) (by omega) (by omega) (by omega) (by omega) (by omega) (by omega) ((ND_sf sf464)) ((CI_nil (ND_f0 sf464) (by omega) (by omega))) (by omega) ((NdM_w sf465 (by omega) (by omega) (by omega)))
  · have _q : True := trivial
    refine jx_ar (pc' := 20) (st' := [.int (i32 (0))]) rfl rfl rfl rfl ?_
    refine jx_ld (pc' := 21) (l' := jSto1 L430 3 (.int (i32 (0)))) (st' := []) rfl rfl ?_
    obtain ⟨L477, eL477⟩ : ∃ q, q = jSto1 L430 3 (.int (i32 (0))) := ⟨_, rfl⟩
    rw [← eL477]
    have gL477_0 : jGet L477 0 = some (.ref 66) := eL477 ▸ jg_ne (by decide) gL430_0 rfl
    have gL477_1 : jGet L477 1 = some (.int (i32 (lv))) := eL477 ▸ jg_ne (by decide) gL430_1 rfl
    have gL477_2 : jGet L477 2 = some (.int (i32 (nd))) := eL477 ▸ jg_ne (by decide) gL430_2 rfl
    have gL477_3 : jGet L477 3 = some (.int (i32 (0))) := eL477 ▸ jg_eq
    refine jx_ld (pc' := 22) (l' := L477) (st' := [.ref 66]) rfl (jl_aloadn gL477_0) ?_
    refine jx_ld (pc' := 23) (l' := L477) (st' := [.int (i32 (lv)), .ref 66]) rfl (jl_iloadn gL477_1) ?_
    have b478 : (-1 : Int) ≤ A 5 (ln2_453).toNat ∧ A 5 (ln2_453).toNat ≤ 15 := hW.2 5 _
    refine jx_vr (pc' := 26) (as := [.int (i32 (lv))]) (st := []) rfl rfl rfl rfl ⟨rfl, rfl, Nat.le_of_ble_eq_true rfl⟩ rfl rfl (c_isBelow (dd := d) (hd := by omega) (hW := hW455) (lv := lv) (ln := ln2_453) (e_ln := show G451 9 = ln2_453 from (e457)) (li := li) (e_li := show G451 3 = li from ((hF456.1 3 rfl).trans ((hF436.1 3 rfl).trans ((hF417.1 3 rfl).trans (e_li))))) (fk := fk2_454) (e_fk := show G451 16 = fk2_454 from (e458)) (ll := A 5 (ln2_453).toNat) (e_ll := show A452 5 (ln2_453).toNat = A 5 (ln2_453).toNat from (congrFun ((hF456.2 5 rfl).trans ((hF436.2 5 rfl).trans (hF417.2 5 rfl))) _))  (h_lv := ⟨(Int.le_trans (by decide : (-2147483648 : Int) ≤ -2147483648) h_lv.1), (Int.le_trans h_lv.2 (by decide : (2147483647 : Int) ≤ 2147483647))⟩)  (p_0 := by omega)) (fun o V' hq => ?_)
    obtain ⟨G479, A480, r481, fk2_482, rfl, rfl, hW483, hF484, b485, e486, q487⟩ := hq
    have hF488 := Fr_tr hF460 hF484 (Fr_sub (by decide)) (Fr_sub (by decide))
    have hP489 := Pf_f hP461 hF484 (by decide)
    have hS490 := Fx_f hS462 hF484 (by decide)
    have hV491 := Fx_f hV463 hF484 (by decide)
    have sf492 : ND A480 (nd) (30) (0) (0) (0) (0) (0) (0) := ND_ag (by omega) (Ag_fr hF484 (by decide)) sf464
    have sf493 : NdM A480 (nd) (nd + 1) (sy) := NdM_f hF484 (by decide) sf465
    have ec494 : ecn A480 (G479 31) = ec2_415 := (ecn_f (hF484.2 15 rfl) (hF484.1 31 rfl)).trans ec466
    have bfk2_482 : (0 : Int) ≤ fk2_482 ∧ fk2_482 ≤ 6 := e486 ▸ hW483.1 16
    refine .inr ⟨_, rfl, ?_⟩
    rcases q487 with ⟨rfl, a495, a496, a497, a498⟩ | ⟨rfl, a499⟩ | ⟨rfl, a500, a501, a502⟩
    · have _q : True := trivial
      exfalso
      omega
    · have _q : True := trivial
      refine jx_if_eq (pc' := 29) (tg := 112) rfl rfl rfl (by decide) (by decide) (fun h503 => ?_) (fun h503 => ?_)
      · have _q := h503
        refine jx_ld (pc' := 113) (l' := L477) (st' := [.ref 66]) rfl (jl_aloadn gL477_0) ?_
        refine jx_vr (pc' := 116) (as := []) (st := []) rfl rfl rfl rfl ⟨rfl, rfl, Nat.le_of_ble_eq_true rfl⟩ rfl rfl (c_bad (dd := d) (hd := by omega) (hW := hW483)  (fk := fk2_482) (e_fk := show G479 16 = fk2_482 from (e486))    ) (fun o V' hq => ?_)
        obtain ⟨r504, rfl, rfl, b505, q506⟩ := hq
        refine .inr ⟨_, rfl, ?_⟩
        rcases q506 with ⟨rfl, a507⟩ | ⟨rfl, a508⟩
        · have _q : True := trivial
          refine jx_if_ne (pc' := 119) (tg := 131) rfl rfl rfl (by decide) (by decide) (fun h509 => ?_) (fun h509 => ?_)
          · have _q := h509
            refine jx_ld (pc' := 132) (l' := L477) (st' := [.int (i32 (nd))]) rfl (jl_iloadn gL477_2) ?_
            refine jx_rt (v := some (.int (i32 (nd)))) rfl rfl rfl rfl rfl rfl ?_
            exact ⟨_, _, _, ln2_453, at2_433, fk2_482, nd2_414, sy, na, vi, A 3 (ln2_453).toNat, ec2_415, rfl, rfl, hW483, hF488, hP489, hS490, hV491, by omega, ((hF484.1 9 rfl).trans (e457)), ((hF484.1 10 rfl).trans ((hF456.1 10 rfl).trans (e437))), (e486), ((hF484.1 31 rfl).trans ((hF456.1 31 rfl).trans ((hF436.1 31 rfl).trans (e419)))), ((hF484.1 19 rfl).trans ((hF456.1 19 rfl).trans ((hF436.1 19 rfl).trans ((hF417.1 19 rfl).trans (e_sy))))), ((hF484.1 28 rfl).trans ((hF456.1 28 rfl).trans ((hF436.1 28 rfl).trans ((hF417.1 28 rfl).trans (e_na))))), ((hF484.1 29 rfl).trans ((hF456.1 29 rfl).trans ((hF436.1 29 rfl).trans ((hF417.1 29 rfl).trans (e_vi))))), (congrFun ((hF484.2 3 rfl).trans ((hF456.2 3 rfl).trans ((hF436.2 3 rfl).trans (hF417.2 3 rfl)))) _), ec494, by omega, by omega, by omega, by omega, by omega, by omega, by omega, by omega, by omega, by omega, by first | exact Or.inl (⟨by omega, by omega⟩)⟩
          · have _q := h509
            exact absurd h509 (by omega)
        · have _q : True := trivial
          exfalso
          omega
      · have _q := h503
        exact absurd h503 (by omega)
    · have _q : True := trivial
      exfalso
      omega
