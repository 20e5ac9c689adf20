set_option maxRecDepth 20000 in
set_option maxHeartbeats 4000000 in
theorem c_readAlt_w_at_24 {X : jX} {k : Nat} (hP : RPw X k) {d : Nat} {Vs : Nat → Prop} {sb pb : Int} (hvb : VB Vs sb) {c0 c1 : jC} {G : Nat → Int} {A : Nat → Nat → Int} {T : jH} {lv : Int} {ln li at0 fk nd sy na vi le op0 tk0 ec : Int} (hd : 8 * k + 82 ≤ d + 1) (hW : Wk G A) (e_ln : G 9 = ln) (e_li : G 3 = li) (e_at0 : G 10 = at0) (e_fk : G 16 = fk) (e_nd : G 31 = nd) (e_sy : G 19 = sy) (e_na : G 28 = na) (e_vi : G 29 = vi) (e_le : A 4 (ln).toNat = le) (e_op0 : G 15 = op0) (e_tk0 : G 11 = tk0) (e_ec : ecn A (G 31) = ec) (i_LT : LT G A) (i_SV : SV Vs sb G A) (i_PQ : PQ Vs sb pb G A) (h_lv : (-2147483648 : Int) ≤ lv ∧ lv ≤ 2147483647) (p_0 : 0 ≤ lv ∧ lv ≤ 15) (p_1 : 18 - lv ≤ ((k + 1 : Nat) : Int)) (p_2 : fk = 0) (p_3 : ln < li) (p_4 : at0 ≤ le) (p_5 : op0 = 0) (p_6 : nd ≤ 2 * at0 - tz tk0 + 30) (p_7 : sy ≤ na + 2) (p_8 : vi ≤ sy) (p_9 : sb = sy) (p_10 : 1 ≤ tk0) : ∀ (m : Nat) (L : jL) (Gx : Nat → Int) (Ax : Nat → Nat → Int) (n last many ln1 at1 fk1 nd1 sy1 na1 vi1 lf1 ec1 : Int), (li - ln1).toNat = m → jGet L 0 = some (.ref 66) → jGet L 1 = some (.int (i32 (lv))) → jGet L 2 = some (.int (i32 n)) → jGet L 3 = some (.int (i32 last)) → jGet L 4 = some (.int (i32 many)) → Wk Gx Ax → Fr [9, 10, 11, 12, 13, 14, 15, 16, 17, 18, 19, 28, 29, 31] [6, 7, 8, 9, 10, 11, 12, 14, 15, 16, 17, 18, 19, 20, 21, 22, 23, 24, 28] G A Gx Ax → Pf nd A Ax → Fx sr (sy) A Ax → Fx [14] (vi) A Ax → Gx 9 = ln1 → Gx 10 = at1 → Gx 16 = fk1 → Gx 31 = nd1 → Gx 19 = sy1 → Gx 28 = na1 → Gx 29 = vi1 → Ax 3 (ln1).toNat = lf1 → ecn Ax (Gx 31) = ec1 → ((-2147483648 : Int) ≤ n ∧ n ≤ 2147483647) → ((-2147483648 : Int) ≤ last ∧ last ≤ 2147483647) → ((-2147483648 : Int) ≤ many ∧ many ≤ 2147483647) → (fk1 = 0) → (at0 ≤ at1) → (nd ≤ n ∧ n ≤ 6998 ∧ n < nd1) → (sy ≤ sy1) → (sy1 ≤ na1 + 2) → (vi1 = vi) → (ln < ln1) → (ln1 ≤ li) → (nd1 - nd ≤ 2 * at1 - (2 * at0 - tz tk0)) → (at1 < lf1 ∨ li ≤ ln1) → (n = nd) → (0 ≤ last ∧ last ≤ 6998) → (last = 0 ∨ n < last) → (last < nd1) → (0 ≤ many ∧ many ≤ 8) → (ND Ax (n) (32) (0) (0) (0) (0) (Ax 21 (n).toNat) (0)) → (CL 2 Ax (sy1) pb (k) (Vs) (n) (last) (many) (n + 1) (nd1) (sy) (sy1)) → (nd1 - nd + 5 * (ec1 - ec) ≤ 2 * at1 - (2 * at0 - tz tk0)) → (NdM Ax (nd) (nd1) (sy)) → wj X d jm302 (24, L, [], rV c0 c1 Gx Ax T) (fun o V' => ∃ (G' : Nat → Int) (A' : Nat → Nat → Int) (r : Int) (ln2 : Int) (at2 : Int) (fk2 : Int) (nd2 : Int) (sy2 : Int) (na2 : Int) (vi2 : Int) (lf2 : Int) (ec2 : Int), V' = rV c0 c1 G' A' T ∧ o = .inl (some (.int (i32 r))) ∧ Wk G' A' ∧ Fr [9, 10, 11, 12, 13, 14, 15, 16, 17, 18, 19, 28, 29, 31] [6, 7, 8, 9, 10, 11, 12, 14, 15, 16, 17, 18, 19, 20, 21, 22, 23, 24, 28] G A G' A' ∧ Pf nd A A' ∧ Fx sr (sy) A A' ∧ Fx [14] (vi) A A' ∧ ((-2147483648 : Int) ≤ r ∧ r ≤ 2147483647) ∧ G' 9 = ln2 ∧ G' 10 = at2 ∧ G' 16 = fk2 ∧ G' 31 = nd2 ∧ G' 19 = sy2 ∧ G' 28 = na2 ∧ G' 29 = vi2 ∧ A' 3 (ln2).toNat = lf2 ∧ ecn A' (G' 31) = ec2 ∧ (at0 ≤ at2) ∧ (nd ≤ nd2) ∧ (sy ≤ sy2) ∧ (sy2 ≤ na2 + 2) ∧ (vi ≤ vi2) ∧ (vi2 ≤ vi + 1) ∧ (0 ≤ r) ∧ (r ≤ 6999) ∧ (ln ≤ ln2) ∧ (ln2 ≤ li) ∧ (((1 ≤ fk2) ∧ (nd2 - nd ≤ 2 * at2 - (2 * at0 - tz tk0) + 14)) ∨ ((fk2 = 0) ∧ (vi2 = vi) ∧ (ln < ln2) ∧ (nd2 - nd ≤ 2 * at2 - (2 * at0 - tz tk0)) ∧ (at2 < lf2 ∨ li ≤ ln2) ∧ (nd ≤ r) ∧ (r < nd2) ∧ (wSt A' (sy2) pb (wP A' (sy2) pb (k)) (Vs) (r) (nd) (nd2) (sy) (sy2)) ∧ (NX A' (r)) ∧ (nd2 - nd + 5 * (ec2 - ec) ≤ 2 * at2 - (2 * at0 - tz tk0)) ∧ (NdM A' (nd) (nd2) (sy))))) := by
  have hF0 : Fr [9, 10, 11, 12, 13, 14, 15, 16, 17, 18, 19, 28, 29, 31] [6, 7, 8, 9, 10, 11, 12, 14, 15, 16, 17, 18, 19, 20, 21, 22, 23, 24, 28] G A G A := Fr_rf
  have hP0 : Pf nd A A := Pf_rf
  have hS0 : Fx sr (sy) A A := Fx_rf
  have hV0 : Fx [14] (vi) A A := Fx_rf
  have b_ln : (0 : Int) ≤ ln ∧ ln ≤ 3000 := e_ln ▸ hW.1 9
  have b_li : (0 : Int) ≤ li ∧ li ≤ 3000 := e_li ▸ hW.1 3
  have b_at0 : (0 : Int) ≤ at0 ∧ at0 ≤ 3002 := e_at0 ▸ hW.1 10
  have b_fk : (0 : Int) ≤ fk ∧ fk ≤ 6 := e_fk ▸ hW.1 16
  have b_nd : (0 : Int) ≤ nd ∧ nd ≤ 6999 := e_nd ▸ hW.1 31
  have b_sy : (0 : Int) ≤ sy ∧ sy ≤ 202 := e_sy ▸ hW.1 19
  have b_na : (0 : Int) ≤ na ∧ na ≤ 200 := e_na ▸ hW.1 28
  have b_vi : (0 : Int) ≤ vi ∧ vi ≤ 202 := e_vi ▸ hW.1 29
  have b_le : (0 : Int) ≤ le ∧ le ≤ 3000 := e_le ▸ hW.2 4 _
  have b_op0 : (-2147483648 : Int) ≤ op0 ∧ op0 ≤ 2147483647 := e_op0 ▸ hW.1 15
  have z_tk0 := tz_f tk0
  have b_tk0 : (0 : Int) ≤ tk0 ∧ tk0 ≤ 5 := e_tk0 ▸ hW.1 11
  intro m
  induction m using Nat.strongRecOn with
  | ind m ih24 =>
    intro L Gx Ax n last many ln1 at1 fk1 nd1 sy1 na1 vi1 lf1 ec1 hm gL_0 gL_1 gL_2 gL_3 gL_4 hWx hFx hPx hSx hVx ex_ln1 ex_at1 ex_fk1 ex_nd1 ex_sy1 ex_na1 ex_vi1 ex_lf1 ex_ec1 rx_n rx_last rx_many iv_0 iv_1 iv_2 iv_3 iv_4 iv_5 iv_6 iv_7 iv_8 iv_9 iv_10 iv_11 iv_12 iv_13 iv_14 iv_15 iv_16 iv_17 iv_18
    have b_ln1 : (0 : Int) ≤ ln1 ∧ ln1 ≤ 3000 := ex_ln1 ▸ hWx.1 9
    have b_at1 : (0 : Int) ≤ at1 ∧ at1 ≤ 3002 := ex_at1 ▸ hWx.1 10
    have b_fk1 : (0 : Int) ≤ fk1 ∧ fk1 ≤ 6 := ex_fk1 ▸ hWx.1 16
    have b_nd1 : (0 : Int) ≤ nd1 ∧ nd1 ≤ 6999 := ex_nd1 ▸ hWx.1 31
    have b_sy1 : (0 : Int) ≤ sy1 ∧ sy1 ≤ 202 := ex_sy1 ▸ hWx.1 19
    have b_na1 : (0 : Int) ≤ na1 ∧ na1 ≤ 200 := ex_na1 ▸ hWx.1 28
    have b_vi1 : (0 : Int) ≤ vi1 ∧ vi1 ≤ 202 := ex_vi1 ▸ hWx.1 29
    refine jx_ld (pc' := 25) (l' := L) (st' := [.ref 66]) rfl (jl_aloadn gL_0) ?_
    refine jx_ld (pc' := 26) (l' := L) (st' := [.int (i32 (lv)), .ref 66]) rfl (jl_iloadn gL_1) ?_
    have b1 : (-1 : Int) ≤ A 5 (ln1).toNat ∧ A 5 (ln1).toNat ≤ 15 := hW.2 5 _
    refine jx_vr (pc' := 29) (as := [.int (i32 (lv))]) (st := []) rfl rfl rfl rfl ⟨rfl, rfl, Nat.le_of_ble_eq_true rfl⟩ rfl rfl (c_isBelow (dd := d) (hd := by omega) (hW := hWx) (lv := lv) (ln := ln1) (e_ln := show Gx 9 = ln1 from (ex_ln1)) (li := li) (e_li := show Gx 3 = li from ((hFx.1 3 rfl).trans (e_li))) (fk := fk1) (e_fk := show Gx 16 = fk1 from (ex_fk1)) (ll := A 5 (ln1).toNat) (e_ll := show Ax 5 (ln1).toNat = A 5 (ln1).toNat from (congrFun (hFx.2 5 rfl) _))  (h_lv := ⟨(Int.le_trans (by decide : (-2147483648 : Int) ≤ -2147483648) h_lv.1), (Int.le_trans h_lv.2 (by decide : (2147483647 : Int) ≤ 2147483647))⟩)  (p_0 := by omega)) (fun o V' hq => ?_)
    obtain ⟨G2, A3, r4, fk2_5, rfl, rfl, hW6, hF7, b8, e9, q10⟩ := hq
    have hF11 := Fr_tr hFx hF7 (Fr_sub (by decide)) (Fr_sub (by decide))
    have hP12 := Pf_f hPx hF7 (by decide)
    have hS13 := Fx_f hSx hF7 (by decide)
    have hV14 := Fx_f hVx hF7 (by decide)
    have sf15 : ND A3 (n) (32) (0) (0) (0) (0) (Ax 21 (n).toNat) (0) := ND_ag (by omega) (Ag_fr hF7 (by decide)) iv_15
    have sf16 : CL 2 A3 (sy1) pb (k) (Vs) (n) (last) (many) (n + 1) (nd1) (sy) (sy1) := CL_ag (by omega) (by omega) (Sg_fr hF7 (by decide)) (Qg_fr hF7 (by decide)) (Ag_fr hF7 (by decide)) (congrFun (hF7.2 21 rfl) _) iv_16
    have sf17 : NdM A3 (nd) (nd1) (sy) := NdM_f hF7 (by decide) iv_18
    have ec18 : ecn A3 (G2 31) = ec1 := (ecn_f (hF7.2 15 rfl) (hF7.1 31 rfl)).trans ex_ec1
    have bfk2_5 : (0 : Int) ≤ fk2_5 ∧ fk2_5 ≤ 6 := e9 ▸ hW6.1 16
    refine .inr ⟨_, rfl, ?_⟩
    rcases q10 with ⟨rfl, a19, a20, a21, a22⟩ | ⟨rfl, a23⟩ | ⟨rfl, a24, a25, a26⟩
    · have _q : True := trivial
      have b27 : (0 : Int) ≤ A 4 (ln1).toNat ∧ A 4 (ln1).toNat ≤ 3000 := hW.2 4 _
      have lt28 : lf1 < A 4 (ln1).toNat := LT_at (LT_ext (((hF7.1 3 rfl).trans (hFx.1 3 rfl))) (((hF7.2 3 rfl).trans (hFx.2 3 rfl))) (((hF7.2 4 rfl).trans (hFx.2 4 rfl))) i_LT) (show G2 3 = li from ((hF7.1 3 rfl).trans ((hFx.1 3 rfl).trans (e_li)))) (show A3 3 (ln1).toNat = lf1 from (congrFun (hF7.2 3 rfl) _).trans (ex_lf1)) (show A3 4 (ln1).toNat = A 4 (ln1).toNat from (congrFun ((hF7.2 4 rfl).trans (hFx.2 4 rfl)) _)) (by omega) (by omega)
      refine jx_if_eq (pc' := 32) (tg := 130) rfl rfl rfl (by decide) (by decide) (fun h29 => ?_) (fun h29 => ?_)
      · have _q := h29
        exact absurd h29 (by omega)
      · have _q := h29
        refine jx_ld (pc' := 34) (l' := L) (st' := [.int (i32 (many))]) rfl (jl_iload gL_4) ?_
        refine jx_ar (pc' := 36) (st' := [.int (i32 (8)), .int (i32 (many))]) rfl rfl rfl rfl ?_
        refine jx_icmp_ne (pc' := 39) (tg := 65) rfl rfl rfl (Int.le_trans (by decide : (-2147483648 : Int) ≤ -2147483648) rx_many.1) (Int.le_trans rx_many.2 (by decide : (2147483647 : Int) ≤ 2147483647)) (by decide) (by decide) (fun h30 => ?_) (fun h30 => ?_)
        · have _q := h30
          refine jx_ld (pc' := 66) (l' := L) (st' := [.ref 66]) rfl (jl_aloadn gL_0) ?_
          refine jx_vr (pc' := 69) (as := []) (st := []) rfl rfl rfl rfl ⟨rfl, rfl, Nat.le_of_ble_eq_true rfl⟩ rfl rfl (c_openLine (dd := d) (hd := by omega) (hW := hW6)  (ln := ln1) (e_ln := show G2 9 = ln1 from ((hF7.1 9 rfl).trans (ex_ln1))) (le := A 4 (ln1).toNat) (e_le := show A3 4 (ln1).toNat = A 4 (ln1).toNat from (congrFun ((hF7.2 4 rfl).trans (hFx.2 4 rfl)) _)) (lf := lf1) (e_lf := show A3 3 (ln1).toNat = lf1 from (congrFun (hF7.2 3 rfl) _).trans (ex_lf1))    (p_0 := by omega)) (fun o V' hq => ?_)
          obtain ⟨G31, A32, at2_33, tk2_34, op2_35, rfl, rfl, hW36, hF37, e38, e39, e40, p41, p42, p43, p44, -⟩ := hq
          have hF46 := Fr_tr hF11 hF37 (Fr_sub (by decide)) (Fr_sub (by decide))
          have hP47 := Pf_f hP12 hF37 (by decide)
          have hS48 := Fx_f hS13 hF37 (by decide)
          have hV49 := Fx_f hV14 hF37 (by decide)
          have sf50 : ND A32 (n) (32) (0) (0) (0) (0) (Ax 21 (n).toNat) (0) := ND_ag (by omega) (Ag_fr hF37 (by decide)) sf15
          have sf51 : CL 2 A32 (sy1) pb (k) (Vs) (n) (last) (many) (n + 1) (nd1) (sy) (sy1) := CL_ag (by omega) (by omega) (Sg_fr hF37 (by decide)) (Qg_fr hF37 (by decide)) (Ag_fr hF37 (by decide)) (congrFun (hF37.2 21 rfl) _) sf16
          have sf52 : NdM A32 (nd) (nd1) (sy) := NdM_f hF37 (by decide) sf17
          have ec53 : ecn A32 (G31 31) = ec1 := (ecn_f (hF37.2 15 rfl) (hF37.1 31 rfl)).trans ec18
          have bat2_33 : (0 : Int) ≤ at2_33 ∧ at2_33 ≤ 3002 := e38 ▸ hW36.1 10
          have ztk2_34 := tz_b tk2_34
          have btk2_34 : (0 : Int) ≤ tk2_34 ∧ tk2_34 ≤ 5 := e39 ▸ hW36.1 11
          have bop2_35 : (-2147483648 : Int) ≤ op2_35 ∧ op2_35 ≤ 2147483647 := e40 ▸ hW36.1 15
          refine .inl ⟨rfl, ?_⟩
          have pz54 : lf1 + tz tk2_34 ≤ at2_33 := by omega
          refine jx_ld (pc' := 70) (l' := L) (st' := [.ref 66]) rfl (jl_aloadn gL_0) ?_
          refine jx_vr (pc' := 73) (as := []) (st := []) rfl rfl rfl rfl ⟨rfl, rfl, Nat.le_of_ble_eq_true rfl⟩ rfl rfl (c_readGuard_w (dd := d) (hd := by omega) (hW := hW36)  (ln := ln1) (e_ln := show G31 9 = ln1 from ((hF37.1 9 rfl).trans ((hF7.1 9 rfl).trans (ex_ln1)))) (le := A 4 (ln1).toNat) (e_le := show A32 4 (ln1).toNat = A 4 (ln1).toNat from (congrFun ((hF37.2 4 rfl).trans ((hF7.2 4 rfl).trans (hFx.2 4 rfl))) _)) (at0 := at2_33) (e_at0 := show G31 10 = at2_33 from (e38)) (fk := fk2_5) (e_fk := show G31 16 = fk2_5 from ((hF37.1 16 rfl).trans (e9))) (op0 := op2_35) (e_op0 := show G31 15 = op2_35 from (e40)) (nd := nd1) (e_nd := show G31 31 = nd1 from ((hF37.1 31 rfl).trans ((hF7.1 31 rfl).trans (ex_nd1)))) (tk0 := tk2_34) (e_tk0 := show G31 11 = tk2_34 from (e39)) (li := li) (e_li := show G31 3 = li from ((hF37.1 3 rfl).trans ((hF7.1 3 rfl).trans ((hFx.1 3 rfl).trans (e_li))))) (ec := ec1) (e_ec := show ecn A32 (G31 31) = ec1 from ec53) (sy := sy1) (e_sy := show G31 19 = sy1 from ((hF37.1 19 rfl).trans ((hF7.1 19 rfl).trans (ex_sy1)))) (i_SV := (SV_fx i_SV e_vi (show G31 29 = vi1 from ((hF37.1 29 rfl).trans ((hF7.1 29 rfl).trans (ex_vi1)))) (by omega) hV49))   (p_0 := by omega) (p_1 := by omega) (p_2 := by omega) (p_3 := by omega) (p_4 := by omega)) (fun o V' hq => ?_)
          obtain ⟨G55, A56, r57, at2_58, fk2_59, nd2_60, ln2_61, ec2_62, rfl, rfl, hW63, hF64, hQ65, b66, e67, e68, e69, e70, e71, p72, p73, p74, p75, p76, q77⟩ := hq
          have hF78 := Fr_tr hF46 hF64 (Fr_sub (by decide)) (Fr_sub (by decide))
          have hP79 := Pf_tr hP47 hQ65 (by omega)
          have hS80 := Fx_f hS48 hF64 (by decide)
          have hV81 := Fx_f hV49 hF64 (by decide)
          have sf82 : ND A56 (n) (32) (0) (0) (0) (0) (Ax 21 (n).toNat) (0) := ND_ag (by omega) (Ag_pf hQ65 (by omega)) sf50
          have sf83 : CL 2 A56 (sy1) pb (k) (Vs) (n) (last) (many) (n + 1) (nd1) (sy) (sy1) := CL_ag (by omega) (by omega) (Sg_fr hF64 (by decide)) (Qg_fr hF64 (by decide)) (Ag_pf hQ65 (by omega)) (hQ65 21 _ rfl (by omega)) sf51
          have sf84 : NdM A56 (nd) (nd1) (sy) := NdM_pf hQ65 (by omega) (by omega) sf52
          have bat2_58 : (0 : Int) ≤ at2_58 ∧ at2_58 ≤ 3002 := e67 ▸ hW63.1 10
          have bfk2_59 : (0 : Int) ≤ fk2_59 ∧ fk2_59 ≤ 6 := e68 ▸ hW63.1 16
          have bnd2_60 : (0 : Int) ≤ nd2_60 ∧ nd2_60 ≤ 6999 := e69 ▸ hW63.1 31
          have bln2_61 : (0 : Int) ≤ ln2_61 ∧ ln2_61 ≤ 3000 := e70 ▸ hW63.1 9
          refine .inr ⟨_, rfl, ?_⟩
          rcases q77 with ⟨a85, a86, a87⟩ | ⟨a88, a89, a90, a91, a92, a93, a94, a95, a96⟩
          · have _q : True := trivial
            refine jx_ld (pc' := 75) (l' := jSto1 L 5 (.int (i32 (r57)))) (st' := []) rfl rfl ?_
            obtain ⟨L97, eL97⟩ : ∃ q, q = jSto1 L 5 (.int (i32 (r57))) := ⟨_, rfl⟩
            rw [← eL97]
            have gL97_0 : jGet L97 0 = some (.ref 66) := eL97 ▸ jg_ne (by decide) gL_0 rfl
            have gL97_1 : jGet L97 1 = some (.int (i32 (lv))) := eL97 ▸ jg_ne (by decide) gL_1 rfl
            have gL97_2 : jGet L97 2 = some (.int (i32 (n))) := eL97 ▸ jg_ne (by decide) gL_2 rfl
            have gL97_3 : jGet L97 3 = some (.int (i32 (last))) := eL97 ▸ jg_ne (by decide) gL_3 rfl
            have gL97_4 : jGet L97 4 = some (.int (i32 (many))) := eL97 ▸ jg_ne (by decide) gL_4 rfl
            have gL97_5 : jGet L97 5 = some (.int (i32 (r57))) := eL97 ▸ jg_eq
            refine jx_ld (pc' := 76) (l' := L97) (st' := [.ref 66]) rfl (jl_aloadn gL97_0) ?_
            refine jx_vr (pc' := 79) (as := []) (st := []) rfl rfl rfl rfl ⟨rfl, rfl, Nat.le_of_ble_eq_true rfl⟩ rfl rfl (c_bad (dd := d) (hd := by omega) (hW := hW63)  (fk := fk2_59) (e_fk := show G55 16 = fk2_59 from (e68))    ) (fun o V' hq => ?_)
            obtain ⟨r98, rfl, rfl, b99, q100⟩ := hq
            refine .inr ⟨_, rfl, ?_⟩
            rcases q100 with ⟨rfl, a101⟩ | ⟨rfl, a102⟩
            · have _q : True := trivial
              refine jx_if_eq (pc' := 82) (tg := 86) rfl rfl rfl (by decide) (by decide) (fun h103 => ?_) (fun h103 => ?_)
              · have _q := h103
                exact absurd h103 (by omega)
              · have _q := h103
                refine jx_ar (pc' := 83) (st' := [.int (i32 (0))]) rfl rfl rfl rfl ?_
                refine jx_go (tg := 93) rfl rfl ?_
                refine jx_ld (pc' := 95) (l' := jSto1 L97 6 (.int (i32 (0)))) (st' := []) rfl rfl ?_
                obtain ⟨L104, eL104⟩ : ∃ q, q = jSto1 L97 6 (.int (i32 (0))) := ⟨_, rfl⟩
                rw [← eL104]
                have gL104_0 : jGet L104 0 = some (.ref 66) := eL104 ▸ jg_ne (by decide) gL97_0 rfl
                have gL104_1 : jGet L104 1 = some (.int (i32 (lv))) := eL104 ▸ jg_ne (by decide) gL97_1 rfl
                have gL104_2 : jGet L104 2 = some (.int (i32 (n))) := eL104 ▸ jg_ne (by decide) gL97_2 rfl
                have gL104_3 : jGet L104 3 = some (.int (i32 (last))) := eL104 ▸ jg_ne (by decide) gL97_3 rfl
                have gL104_4 : jGet L104 4 = some (.int (i32 (many))) := eL104 ▸ jg_ne (by decide) gL97_4 rfl
                have gL104_5 : jGet L104 5 = some (.int (i32 (r57))) := eL104 ▸ jg_ne (by decide) gL97_5 rfl
                have gL104_6 : jGet L104 6 = some (.int (i32 (0))) := eL104 ▸ jg_eq
                refine jx_ld (pc' := 96) (l' := L104) (st' := [.ref 66]) rfl (jl_aloadn gL104_0) ?_
                refine jx_vr (pc' := 99) (as := []) (st := []) rfl rfl rfl rfl ⟨rfl, rfl, Nat.le_of_ble_eq_true rfl⟩ rfl rfl (c_bad (dd := d) (hd := by omega) (hW := hW63)  (fk := fk2_59) (e_fk := show G55 16 = fk2_59 from (e68))    ) (fun o V' hq => ?_)
                obtain ⟨r105, rfl, rfl, b106, q107⟩ := hq
                refine .inr ⟨_, rfl, ?_⟩
                rcases q107 with ⟨rfl, a108⟩ | ⟨rfl, a109⟩
                · have _q : True := trivial
                  refine jx_if_eq (pc' := 102) (tg := 104) rfl rfl rfl (by decide) (by decide) (fun h110 => ?_) (fun h110 => ?_)
                  · have _q := h110
                    exact absurd h110 (by omega)
                  · have _q := h110
                    refine jx_ar (pc' := 103) (st' := [.int (i32 (0))]) rfl rfl rfl rfl ?_
                    refine jx_rt (v := some (.int (i32 (0)))) rfl rfl rfl rfl rfl rfl ?_
                    exact ⟨_, _, _, ln2_61, at2_58, fk2_59, nd2_60, sy1, na1, vi1, A 3 (ln2_61).toNat, ec2_62, rfl, rfl, hW63, hF78, hP79, hS80, hV81, by omega, (e70), (e67), (e68), (e69), ((hF64.1 19 rfl).trans ((hF37.1 19 rfl).trans ((hF7.1 19 rfl).trans (ex_sy1)))), ((hF64.1 28 rfl).trans ((hF37.1 28 rfl).trans ((hF7.1 28 rfl).trans (ex_na1)))), ((hF64.1 29 rfl).trans ((hF37.1 29 rfl).trans ((hF7.1 29 rfl).trans (ex_vi1)))), (congrFun ((hF64.2 3 rfl).trans ((hF37.2 3 rfl).trans ((hF7.2 3 rfl).trans (hFx.2 3 rfl)))) _), e71, by omega, by omega, by omega, by omega, by omega, by omega, by omega, by omega, by omega, by omega, by first | exact Or.inl (⟨by omega, by omega⟩)⟩
                · have _q : True := trivial
                  exfalso
                  omega
            · have _q : True := trivial
              exfalso
              omega
          · have _q : True := trivial
            have b111 : (0 : Int) ≤ A 3 (ln2_61).toNat ∧ A 3 (ln2_61).toNat ≤ 3000 := hW.2 3 _
            have lt112 : ln2_61 < li → A 4 (ln1).toNat < A 3 (ln2_61).toNat := fun hh => LT_nx (LT_ext (((hF64.1 3 rfl).trans ((hF37.1 3 rfl).trans ((hF7.1 3 rfl).trans (hFx.1 3 rfl))))) (((hF64.2 3 rfl).trans ((hF37.2 3 rfl).trans ((hF7.2 3 rfl).trans (hFx.2 3 rfl))))) (((hF64.2 4 rfl).trans ((hF37.2 4 rfl).trans ((hF7.2 4 rfl).trans (hFx.2 4 rfl))))) i_LT) (show G55 3 = li from ((hF64.1 3 rfl).trans ((hF37.1 3 rfl).trans ((hF7.1 3 rfl).trans ((hFx.1 3 rfl).trans (e_li)))))) (show A56 4 (ln1).toNat = A 4 (ln1).toNat from (congrFun ((hF64.2 4 rfl).trans ((hF37.2 4 rfl).trans ((hF7.2 4 rfl).trans (hFx.2 4 rfl)))) _)) (show A56 3 (ln2_61).toNat = A 3 (ln2_61).toNat from (congrFun ((hF64.2 3 rfl).trans ((hF37.2 3 rfl).trans ((hF7.2 3 rfl).trans (hFx.2 3 rfl)))) _)) (show ln2_61 = ln1 + 1 by omega) (by omega) hh
            refine jx_ld (pc' := 75) (l' := jSto1 L 5 (.int (i32 (r57)))) (st' := []) rfl rfl ?_
            obtain ⟨L113, eL113⟩ : ∃ q, q = jSto1 L 5 (.int (i32 (r57))) := ⟨_, rfl⟩
            rw [← eL113]
            have gL113_0 : jGet L113 0 = some (.ref 66) := eL113 ▸ jg_ne (by decide) gL_0 rfl
            have gL113_1 : jGet L113 1 = some (.int (i32 (lv))) := eL113 ▸ jg_ne (by decide) gL_1 rfl
            have gL113_2 : jGet L113 2 = some (.int (i32 (n))) := eL113 ▸ jg_ne (by decide) gL_2 rfl
            have gL113_3 : jGet L113 3 = some (.int (i32 (last))) := eL113 ▸ jg_ne (by decide) gL_3 rfl
            have gL113_4 : jGet L113 4 = some (.int (i32 (many))) := eL113 ▸ jg_ne (by decide) gL_4 rfl
            have gL113_5 : jGet L113 5 = some (.int (i32 (r57))) := eL113 ▸ jg_eq
            refine jx_ld (pc' := 76) (l' := L113) (st' := [.ref 66]) rfl (jl_aloadn gL113_0) ?_
            refine jx_vr (pc' := 79) (as := []) (st := []) rfl rfl rfl rfl ⟨rfl, rfl, Nat.le_of_ble_eq_true rfl⟩ rfl rfl (c_bad (dd := d) (hd := by omega) (hW := hW63)  (fk := fk2_59) (e_fk := show G55 16 = fk2_59 from (e68))    ) (fun o V' hq => ?_)
            obtain ⟨r114, rfl, rfl, b115, q116⟩ := hq
            refine .inr ⟨_, rfl, ?_⟩
            rcases q116 with ⟨rfl, a117⟩ | ⟨rfl, a118⟩
            · have _q : True := trivial
              exfalso
              omega
            · have _q : True := trivial
              refine jx_if_eq (pc' := 82) (tg := 86) rfl rfl rfl (by decide) (by decide) (fun h119 => ?_) (fun h119 => ?_)
              · have _q := h119
                refine jx_ld (pc' := 87) (l' := L113) (st' := [.ref 66]) rfl (jl_aloadn gL113_0) ?_
                refine jx_ld (pc' := 88) (l' := L113) (st' := [.int (i32 (lv)), .ref 66]) rfl (jl_iloadn gL113_1) ?_
                refine jx_ar (pc' := 89) (st' := [.int (i32 (2)), .int (i32 (lv)), .ref 66]) rfl rfl rfl rfl ?_
                refine jx_add (pc' := 90) rfl rfl ?_
                refine jx_vr (pc' := 93) (as := [.int (i32 ((lv + 2)))]) (st := []) rfl rfl rfl rfl ⟨rfl, rfl, Nat.le_of_ble_eq_true rfl⟩ rfl rfl (hP (dd := d) (hd := by omega) (hW := hW63) (lv := (lv + 2)) (at0 := at2_58) (ln := ln2_61) (e_ln := show G55 9 = ln2_61 from (e70)) (li := li) (e_li := show G55 3 = li from ((hF64.1 3 rfl).trans ((hF37.1 3 rfl).trans ((hF7.1 3 rfl).trans ((hFx.1 3 rfl).trans (e_li)))))) (fk := fk2_59) (e_fk := show G55 16 = fk2_59 from (e68)) (nd := nd2_60) (e_nd := show G55 31 = nd2_60 from (e69)) (sy := sy1) (e_sy := show G55 19 = sy1 from ((hF64.1 19 rfl).trans ((hF37.1 19 rfl).trans ((hF7.1 19 rfl).trans (ex_sy1))))) (na := na1) (e_na := show G55 28 = na1 from ((hF64.1 28 rfl).trans ((hF37.1 28 rfl).trans ((hF7.1 28 rfl).trans (ex_na1))))) (vi := vi1) (e_vi := show G55 29 = vi1 from ((hF64.1 29 rfl).trans ((hF37.1 29 rfl).trans ((hF7.1 29 rfl).trans (ex_vi1))))) (lf := A 3 (ln2_61).toNat) (e_lf := show A56 3 (ln2_61).toNat = A 3 (ln2_61).toNat from (congrFun ((hF64.2 3 rfl).trans ((hF37.2 3 rfl).trans ((hF7.2 3 rfl).trans (hFx.2 3 rfl)))) _)) (ac := at2_58) (e_ac := show G55 10 = at2_58 from (e67)) (ec := ec2_62) (e_ec := show ecn A56 (G55 31) = ec2_62 from e71) (i_LT := (LT_ext (((hF64.1 3 rfl).trans ((hF37.1 3 rfl).trans ((hF7.1 3 rfl).trans (hFx.1 3 rfl))))) (((hF64.2 3 rfl).trans ((hF37.2 3 rfl).trans ((hF7.2 3 rfl).trans (hFx.2 3 rfl))))) (((hF64.2 4 rfl).trans ((hF37.2 4 rfl).trans ((hF7.2 4 rfl).trans (hFx.2 4 rfl))))) i_LT)) (i_SV := (SV_fx i_SV e_vi (show G55 29 = vi1 from ((hF64.1 29 rfl).trans ((hF37.1 29 rfl).trans ((hF7.1 29 rfl).trans (ex_vi1))))) (by omega) hV81)) (i_PQ := (PQ_fx i_PQ hS80 (by omega) (hF78.2 29 rfl) (hF78.2 30 rfl))) (hvb := hvb) (h_lv := ⟨(by omega), (by omega)⟩)  (p_0 := by omega) (p_1 := by omega) (p_2 := by omega) (p_3 := by omega) (p_4 := by omega) (p_5 := by omega) (p_6 := by omega) (p_7 := by omega) (p_8 := by omega) (p_9 := by omega) (p_10 := by omega)) (fun o V' hq => ?_)
                obtain ⟨G120, A121, r122, ln2_123, at2_124, fk2_125, nd2_126, sy2_127, na2_128, vi2_129, lf2_130, ec2_131, rfl, rfl, hW132, hF133, hQ134, hQ135, hQ136, b137, e138, e139, e140, e141, e142, e143, e144, e145, e146, p147, p148, p149, p150, p151, p152, p153, p154, p155, q156⟩ := hq
                have hF157 := Fr_tr hF78 hF133 (Fr_sub (by decide)) (Fr_sub (by decide))
                have hP158 := Pf_tr hP79 hQ134 (by omega)
                have hS159 := Fx_tr hS80 hQ135 (by omega)
                have hV160 := Fx_tr hV81 hQ136 (by omega)
                have sf161 : ND A121 (n) (32) (0) (0) (0) (0) (Ax 21 (n).toNat) (0) := ND_ag (by omega) (Ag_pf hQ134 (by omega)) sf82
                have sf162 : CL 2 A121 (sy1) pb (k) (Vs) (n) (last) (many) (n + 1) (nd1) (sy) (sy1) := CL_ag (by omega) (by omega) (Fx_su hQ135 (by omega)) (Qg_fr hF133 (by decide)) (Ag_pf hQ134 (by omega)) (hQ134 21 _ rfl (by omega)) sf83
                have sf163 : NdM A121 (nd) (nd1) (sy) := NdM_pf hQ134 (by omega) (by omega) sf84
                have sf164 : wU A121 Vs sb (r57) (nd1) (nd2_60) := wU_ag (by omega) (Fx_su hQ135 (by omega)) (Ax_ag (Ag_pf hQ134 (by omega))) a93
                have sf165 : NX A121 (r57) := NX_ag (by omega) (Ag_pf hQ134 (by omega)) a94
                have sf166 : NdM A121 (nd1) (nd2_60) (sy1) := NdM_pf hQ134 (by omega) (by omega) a96
                have bln2_123 : (0 : Int) ≤ ln2_123 ∧ ln2_123 ≤ 3000 := e138 ▸ hW132.1 9
                have bat2_124 : (0 : Int) ≤ at2_124 ∧ at2_124 ≤ 3002 := e139 ▸ hW132.1 10
                have bfk2_125 : (0 : Int) ≤ fk2_125 ∧ fk2_125 ≤ 6 := e140 ▸ hW132.1 16
                have bnd2_126 : (0 : Int) ≤ nd2_126 ∧ nd2_126 ≤ 6999 := e141 ▸ hW132.1 31
                have bsy2_127 : (0 : Int) ≤ sy2_127 ∧ sy2_127 ≤ 202 := e142 ▸ hW132.1 19
                have bna2_128 : (0 : Int) ≤ na2_128 ∧ na2_128 ≤ 200 := e143 ▸ hW132.1 28
                have bvi2_129 : (0 : Int) ≤ vi2_129 ∧ vi2_129 ≤ 202 := e144 ▸ hW132.1 29
                have blf2_130 : (0 : Int) ≤ lf2_130 ∧ lf2_130 ≤ 3000 := e145 ▸ hW132.2 3 _
                refine .inr ⟨_, rfl, ?_⟩
                rcases q156 with ⟨a167, a168⟩ | ⟨a169, a170, a171, a172, a173, a174, a175, a176, a177, a178⟩
                · have _q : True := trivial
                  refine jx_ld (pc' := 95) (l' := jSto1 L113 6 (.int (i32 (r122)))) (st' := []) rfl rfl ?_
                  obtain ⟨L179, eL179⟩ : ∃ q, q = jSto1 L113 6 (.int (i32 (r122))) := ⟨_, rfl⟩
                  rw [← eL179]
                  have gL179_0 : jGet L179 0 = some (.ref 66) := eL179 ▸ jg_ne (by decide) gL113_0 rfl
                  have gL179_1 : jGet L179 1 = some (.int (i32 (lv))) := eL179 ▸ jg_ne (by decide) gL113_1 rfl
                  have gL179_2 : jGet L179 2 = some (.int (i32 (n))) := eL179 ▸ jg_ne (by decide) gL113_2 rfl
                  have gL179_3 : jGet L179 3 = some (.int (i32 (last))) := eL179 ▸ jg_ne (by decide) gL113_3 rfl
                  have gL179_4 : jGet L179 4 = some (.int (i32 (many))) := eL179 ▸ jg_ne (by decide) gL113_4 rfl
                  have gL179_5 : jGet L179 5 = some (.int (i32 (r57))) := eL179 ▸ jg_ne (by decide) gL113_5 rfl
                  have gL179_6 : jGet L179 6 = some (.int (i32 (r122))) := eL179 ▸ jg_eq
                  refine jx_ld (pc' := 96) (l' := L179) (st' := [.ref 66]) rfl (jl_aloadn gL179_0) ?_
                  refine jx_vr (pc' := 99) (as := []) (st := []) rfl rfl rfl rfl ⟨rfl, rfl, Nat.le_of_ble_eq_true rfl⟩ rfl rfl (c_bad (dd := d) (hd := by omega) (hW := hW132)  (fk := fk2_125) (e_fk := show G120 16 = fk2_125 from (e140))    ) (fun o V' hq => ?_)
                  obtain ⟨r180, rfl, rfl, b181, q182⟩ := hq
                  refine .inr ⟨_, rfl, ?_⟩
                  rcases q182 with ⟨rfl, a183⟩ | ⟨rfl, a184⟩
                  · have _q : True := trivial
                    refine jx_if_eq (pc' := 102) (tg := 104) rfl rfl rfl (by decide) (by decide) (fun h185 => ?_) (fun h185 => ?_)
                    · have _q := h185
                      exact absurd h185 (by omega)
                    · have _q := h185
                      refine jx_ar (pc' := 103) (st' := [.int (i32 (0))]) rfl rfl rfl rfl ?_
                      refine jx_rt (v := some (.int (i32 (0)))) rfl rfl rfl rfl rfl rfl ?_
                      exact ⟨_, _, _, ln2_123, at2_124, fk2_125, nd2_126, sy2_127, na2_128, vi2_129, lf2_130, ec2_131, rfl, rfl, hW132, hF157, hP158, hS159, hV160, by omega, (e138), (e139), (e140), (e141), (e142), (e143), (e144), (e145), e146, by omega, by omega, by omega, by omega, by omega, by omega, by omega, by omega, by omega, by omega, by first | exact Or.inl (⟨by omega, by omega⟩)⟩
                  · have _q : True := trivial
                    exfalso
                    omega
                · have _q : True := trivial
                  refine jx_ld (pc' := 95) (l' := jSto1 L113 6 (.int (i32 (r122)))) (st' := []) rfl rfl ?_
                  obtain ⟨L186, eL186⟩ : ∃ q, q = jSto1 L113 6 (.int (i32 (r122))) := ⟨_, rfl⟩
                  rw [← eL186]
                  have gL186_0 : jGet L186 0 = some (.ref 66) := eL186 ▸ jg_ne (by decide) gL113_0 rfl
                  have gL186_1 : jGet L186 1 = some (.int (i32 (lv))) := eL186 ▸ jg_ne (by decide) gL113_1 rfl
                  have gL186_2 : jGet L186 2 = some (.int (i32 (n))) := eL186 ▸ jg_ne (by decide) gL113_2 rfl
                  have gL186_3 : jGet L186 3 = some (.int (i32 (last))) := eL186 ▸ jg_ne (by decide) gL113_3 rfl
                  have gL186_4 : jGet L186 4 = some (.int (i32 (many))) := eL186 ▸ jg_ne (by decide) gL113_4 rfl
                  have gL186_5 : jGet L186 5 = some (.int (i32 (r57))) := eL186 ▸ jg_ne (by decide) gL113_5 rfl
                  have gL186_6 : jGet L186 6 = some (.int (i32 (r122))) := eL186 ▸ jg_eq
                  refine jx_ld (pc' := 96) (l' := L186) (st' := [.ref 66]) rfl (jl_aloadn gL186_0) ?_
                  refine jx_vr (pc' := 99) (as := []) (st := []) rfl rfl rfl rfl ⟨rfl, rfl, Nat.le_of_ble_eq_true rfl⟩ rfl rfl (c_bad (dd := d) (hd := by omega) (hW := hW132)  (fk := fk2_125) (e_fk := show G120 16 = fk2_125 from (e140))    ) (fun o V' hq => ?_)
                  obtain ⟨r187, rfl, rfl, b188, q189⟩ := hq
                  refine .inr ⟨_, rfl, ?_⟩
                  rcases q189 with ⟨rfl, a190⟩ | ⟨rfl, a191⟩
                  · have _q : True := trivial
                    exfalso
                    omega
                  · have _q : True := trivial
                    refine jx_if_eq (pc' := 102) (tg := 104) rfl rfl rfl (by decide) (by decide) (fun h192 => ?_) (fun h192 => ?_)
                    · have _q := h192
                      refine jx_ld (pc' := 105) (l' := L186) (st' := [.ref 66]) rfl (jl_aloadn gL186_0) ?_
                      refine jr_get (pc' := 108) (i := 38) (v := .ref 88) rfl rfl (by decide) rfl rfl ?_
                      refine jx_ld (pc' := 110) (l' := L186) (st' := [.int (i32 (r57)), .ref 88]) rfl (jl_iload gL186_5) ?_
                      refine jx_ld (pc' := 112) (l' := L186) (st' := [.int (i32 (r122)), .int (i32 (r57)), .ref 88]) rfl (jl_iload gL186_6) ?_
                      refine jr_st (pc' := 113) (i := 21) (m := 7000) (z := r57) (y := r122) rfl (by decide) rfl (by decide) (by omega) (by omega) rfl ?_
                      have hW194 : Wk G120 (uA A121 21 (r57).toNat (r122)) := Wk_a hW132 (show (-2147483648 : Int) ≤ r122 by omega) (show r122 ≤ (2147483647 : Int) by omega)
                      have hF195 := Fr_a (z := r122) (k := 21) (n := (r57).toNat) hF157 (by decide)
                      obtain ⟨A193, eA193⟩ : ∃ q, q = uA A121 21 (r57).toNat (r122) := ⟨_, rfl⟩
                      rw [← eA193]
                      rw [← eA193] at hW194 hF195
                      have q196 : A193 21 (r57).toNat = r122 := by rw [eA193]; exact uA_eq
                      have hP197 : Pf nd A A193 := eA193 ▸ Pf_a hP158 (z := r57) (by omega) (by omega)
                      have hS198 : Fx sr (sy) A A193 := eA193 ▸ Fx_n hS159 rfl
                      have hV199 : Fx [14] (vi) A A193 := eA193 ▸ Fx_n hV160 rfl
                      have sf200 : ND A193 (n) (32) (0) (0) (0) (0) (Ax 21 (n).toNat) (0) := ND_ag (by omega) (Ag_st eA193 (by omega) (by omega)) sf161
                      have sf201 : CL 2 A193 (sy1) pb (k) (Vs) (n) (last) (many) (n + 1) (nd1) (sy) (sy1) := CL_ag (by omega) (by omega) (Sg_ne eA193 rfl) (Qg_ne eA193 rfl) (Ag_st eA193 (by omega) (by omega)) ((by rw [eA193]; exact uA_ni (by omega))) sf162
                      have sf202 : NdM A193 (nd) (nd1) (sy) := NdM_st eA193 (by decide) sf163
                      have sf203 : wU A193 Vs sb (r57) (nd1) (nd2_60) := wU_f eA193 (by omega) sf164
                      have sf204 : NX A193 (r57) := NX_r eA193 (by decide) sf165
                      have sf205 : NdM A193 (nd1) (nd2_60) (sy1) := NdM_st eA193 (by decide) sf166
                      have sf206 : wP A193 (sy2_127) pb (k) (Vs) (r122) (nd2_60) (nd2_126) (sy1) (sy2_127) := wP_ag (Sg_ne eA193 rfl) (Qg_ne eA193 rfl) (by omega) (by omega) (Ax_ag (Ag_st eA193 (by omega) (by omega))) a175
                      have sf207 : NX A193 (r122) := NX_r eA193 (by decide) a176
                      have sf208 : NdM A193 (nd2_60) (nd2_126) (sy1) := NdM_st eA193 (by decide) a178
                      have ec209 : ecn A193 (G120 31) = ec2_131 := (ecn_e ((congrFun eA193 15).trans (uA_ne (by decide)))).trans e146
                      refine jx_ld (pc' := 114) (l' := L186) (st' := [.ref 66]) rfl (jl_aloadn gL186_0) ?_
                      refine jx_ld (pc' := 115) (l' := L186) (st' := [.int (i32 (n)), .ref 66]) rfl (jl_iloadn gL186_2) ?_
                      refine jx_ld (pc' := 116) (l' := L186) (st' := [.int (i32 (last)), .int (i32 (n)), .ref 66]) rfl (jl_iloadn gL186_3) ?_
                      refine jx_ld (pc' := 118) (l' := L186) (st' := [.int (i32 (r57)), .int (i32 (last)), .int (i32 (n)), .ref 66]) rfl (jl_iload gL186_5) ?_
                      refine jx_vr (pc' := 121) (as := [.int (i32 (n)), .int (i32 (last)), .int (i32 (r57))]) (st := []) rfl rfl rfl rfl ⟨rfl, rfl, Nat.le_of_ble_eq_true rfl⟩ rfl rfl (c_addTo (dd := d) (zz := nd) (hd := by omega) (hW := hW194) (n := n) (last := last) (one := r57)   (h_n := ⟨(Int.le_trans (by decide : (-2147483648 : Int) ≤ -2147483648) rx_n.1), (Int.le_trans rx_n.2 (by decide : (2147483647 : Int) ≤ 2147483647))⟩) (h_last := ⟨(Int.le_trans (by decide : (-2147483648 : Int) ≤ -2147483648) rx_last.1), (Int.le_trans rx_last.2 (by decide : (2147483647 : Int) ≤ 2147483647))⟩) (h_one := ⟨(Int.le_trans (by decide : (-2147483648 : Int) ≤ -2147483648) b66.1), (Int.le_trans b66.2 (by decide : (2147483647 : Int) ≤ 2147483647))⟩)  (p_0 := by omega) (p_1 := by omega) (p_2 := by omega) (p_3 := by omega)) (fun o V' hq => ?_)
                      obtain ⟨G210, A211, rfl, rfl, hW212, hF213, hQ214, q215⟩ := hq
                      have hF216 := Fr_tr hF195 hF213 (Fr_sub (by decide)) (Fr_sub (by decide))
                      have hP217 := Pf_tr hP197 hQ214 (by omega)
                      have hS218 := Fx_f hS198 hF213 (by decide)
                      have hV219 := Fx_f hV199 hF213 (by decide)
                      have ec220 : ecn A211 (G210 31) = ec2_131 := (ecn_f (hF213.2 15 rfl) (hF213.1 31 rfl)).trans ec209
                      refine .inl ⟨rfl, ?_⟩
                      rcases q215 with ⟨a221, a222⟩ | ⟨a223, a224⟩
                      · have _q : True := trivial
                        have sf225 : ND A211 (n) (32) (0) (0) (0) (0) (r57) (0) := ND_f a222 sf200
                        have sf226 : CL 2 A211 (sy2_127) pb (k) (Vs) (n) (r57) (many + 1) (n + 1) (nd2_126) (sy) (sy2_127) := CL_one a222 (by omega) (by omega) (by omega) (by omega) (by omega) (by omega) (show RQ 2 A193 (sy2_127) pb (k) (Vs) (r57) (nd1) (nd2_126) (sy1) (sy2_127) from wG_mk (m := nd2_60) (wU_sb (by omega) (wU_eq sf203 (by omega) (by omega))) (show A193 21 (r57).toNat = r122 from (q196)) (by omega) (by omega) (wP_eq sf206 (by omega) rfl rfl (by omega) rfl (by omega) rfl (by omega))) sf204 (CL_sb (by omega) sf201)
                        have sf227 : NdM A211 (nd) (nd1) (sy) := NdM_st a222 (by decide) sf202
                        have sf228 : wU A211 Vs sb (r57) (nd1) (nd2_60) := wU_ag (by omega) (Sg_ne a222 rfl) (Ax_ag (Ag_st a222 (by omega) (by omega))) sf203
                        have sf229 : NX A211 (r57) := NX_r a222 (by decide) sf204
                        have sf230 : NdM A211 (nd1) (nd2_60) (sy1) := NdM_st a222 (by decide) sf205
                        have sf231 : wP A211 (sy2_127) pb (k) (Vs) (r122) (nd2_60) (nd2_126) (sy1) (sy2_127) := wP_ag (Sg_ne a222 rfl) (Qg_ne a222 rfl) (by omega) (by omega) (Ax_ag (Ag_st a222 (by omega) (by omega))) sf206
                        have sf232 : NX A211 (r122) := NX_r a222 (by decide) sf207
                        have sf233 : NdM A211 (nd2_60) (nd2_126) (sy1) := NdM_st a222 (by decide) sf208
                        refine jx_ld (pc' := 123) (l' := L186) (st' := [.int (i32 (r57))]) rfl (jl_iload gL186_5) ?_
                        refine jx_ld (pc' := 124) (l' := jSto1 L186 3 (.int (i32 (r57)))) (st' := []) rfl rfl ?_
                        obtain ⟨L234, eL234⟩ : ∃ q, q = jSto1 L186 3 (.int (i32 (r57))) := ⟨_, rfl⟩
                        rw [← eL234]
                        have gL234_0 : jGet L234 0 = some (.ref 66) := eL234 ▸ jg_ne (by decide) gL186_0 rfl
                        have gL234_1 : jGet L234 1 = some (.int (i32 (lv))) := eL234 ▸ jg_ne (by decide) gL186_1 rfl
                        have gL234_2 : jGet L234 2 = some (.int (i32 (n))) := eL234 ▸ jg_ne (by decide) gL186_2 rfl
                        have gL234_4 : jGet L234 4 = some (.int (i32 (many))) := eL234 ▸ jg_ne (by decide) gL186_4 rfl
                        have gL234_5 : jGet L234 5 = some (.int (i32 (r57))) := eL234 ▸ jg_ne (by decide) gL186_5 rfl
                        have gL234_6 : jGet L234 6 = some (.int (i32 (r122))) := eL234 ▸ jg_ne (by decide) gL186_6 rfl
                        have gL234_3 : jGet L234 3 = some (.int (i32 (r57))) := eL234 ▸ jg_eq
                        refine jx_inc (pc' := 127) (l' := jSto1 L234 4 (.int (i32 ((many + (1)))))) (x := many) rfl gL234_4 (by decide) rfl rfl ?_
                        obtain ⟨L235, eL235⟩ : ∃ q, q = jSto1 L234 4 (.int (i32 ((many + (1))))) := ⟨_, rfl⟩
                        rw [← eL235]
                        have gL235_0 : jGet L235 0 = some (.ref 66) := eL235 ▸ jg_ne (by decide) gL234_0 rfl
                        have gL235_1 : jGet L235 1 = some (.int (i32 (lv))) := eL235 ▸ jg_ne (by decide) gL234_1 rfl
                        have gL235_2 : jGet L235 2 = some (.int (i32 (n))) := eL235 ▸ jg_ne (by decide) gL234_2 rfl
                        have gL235_5 : jGet L235 5 = some (.int (i32 (r57))) := eL235 ▸ jg_ne (by decide) gL234_5 rfl
                        have gL235_6 : jGet L235 6 = some (.int (i32 (r122))) := eL235 ▸ jg_ne (by decide) gL234_6 rfl
                        have gL235_3 : jGet L235 3 = some (.int (i32 (r57))) := eL235 ▸ jg_ne (by decide) gL234_3 rfl
                        have gL235_4 : jGet L235 4 = some (.int (i32 ((many + (1))))) := eL235 ▸ jg_eq
                        refine jx_go (tg := 24) rfl rfl ?_
                        exact ih24 _ (by omega) L235 G210 A211 (n) (r57) ((many + (1))) (ln2_123) (at2_124) (fk2_125) (nd2_126) (sy2_127) (na2_128) (vi2_129) (lf2_130) (ec2_131) rfl gL235_0 gL235_1 gL235_2 gL235_3 gL235_4 hW212 hF216 hP217 hS218 hV219 (((hF213.1 9 rfl).trans (e138))) (((hF213.1 10 rfl).trans (e139))) (((hF213.1 16 rfl).trans (e140))) (((hF213.1 31 rfl).trans (e141))) (((hF213.1 19 rfl).trans (e142))) (((hF213.1 28 rfl).trans (e143))) (((hF213.1 29 rfl).trans (e144))) ((congrFun ((hF213.2 3 rfl).trans ((congrFun eA193 3).trans (uA_ne (by decide)))) _).trans (e145)) (ec220) (by omega) (by omega) (by omega) (by omega) (by omega) (by omega) (by omega) (by omega) (by omega) (by omega) (by omega) (by omega) (by omega) (by omega) (by omega) (by omega) (by omega) (by omega) ((ND_sf sf225)) ((CL_eq (CL_sb (by omega) sf226) (by omega) (by omega) (by omega) (by omega) (by omega) (by omega))) (by omega) ((NdM_w (NdM_app (sy := sy) sf227 (NdM_app (sy := sy) sf230 sf233 (by omega) (by omega) (by omega)) (by omega) (by omega) (by omega)) (by omega) (by omega) (by omega)))
                      · have _q : True := trivial
                        have sf236 : ND A211 (n) (32) (0) (0) (0) (0) (Ax 21 (n).toNat) (0) := ND_ag (by omega) (Ag_st a224 (by omega) (by omega)) sf200
                        have sf237 : CL 2 A211 (sy2_127) pb (k) (Vs) (n) (r57) (many + 1) (n + 1) (nd2_126) (sy) (sy2_127) := CL_two a224 (by omega) (by omega) (by omega) (by omega) (by omega) (show RQ 2 A193 (sy2_127) pb (k) (Vs) (r57) (nd1) (nd2_126) (sy1) (sy2_127) from wG_mk (m := nd2_60) (wU_sb (by omega) (wU_eq sf203 (by omega) (by omega))) (show A193 21 (r57).toNat = r122 from (q196)) (by omega) (by omega) (wP_eq sf206 (by omega) rfl rfl (by omega) rfl (by omega) rfl (by omega))) sf204 (CL_sb (by omega) sf201)
                        have sf238 : NdM A211 (nd) (nd1) (sy) := NdM_st a224 (by decide) sf202
                        have sf239 : wU A211 Vs sb (r57) (nd1) (nd2_60) := wU_ag (by omega) (Sg_ne a224 rfl) (Ax_ag (Ag_st a224 (by omega) (by omega))) sf203
                        have sf240 : NX A211 (r57) := NX_ag (by omega) (Ag_st a224 (by omega) (by omega)) sf204
                        have sf241 : NdM A211 (nd1) (nd2_60) (sy1) := NdM_st a224 (by decide) sf205
                        have sf242 : wP A211 (sy2_127) pb (k) (Vs) (r122) (nd2_60) (nd2_126) (sy1) (sy2_127) := wP_ag (Sg_ne a224 rfl) (Qg_ne a224 rfl) (by omega) (by omega) (Ax_ag (Ag_st a224 (by omega) (by omega))) sf206
                        have sf243 : NX A211 (r122) := NX_ag (by omega) (Ag_st a224 (by omega) (by omega)) sf207
                        have sf244 : NdM A211 (nd2_60) (nd2_126) (sy1) := NdM_st a224 (by decide) sf208
                        refine jx_ld (pc' := 123) (l' := L186) (st' := [.int (i32 (r57))]) rfl (jl_iload gL186_5) ?_
                        refine jx_ld (pc' := 124) (l' := jSto1 L186 3 (.int (i32 (r57)))) (st' := []) rfl rfl ?_
                        obtain ⟨L245, eL245⟩ : ∃ q, q = jSto1 L186 3 (.int (i32 (r57))) := ⟨_, rfl⟩
                        rw [← eL245]
                        have gL245_0 : jGet L245 0 = some (.ref 66) := eL245 ▸ jg_ne (by decide) gL186_0 rfl
                        have gL245_1 : jGet L245 1 = some (.int (i32 (lv))) := eL245 ▸ jg_ne (by decide) gL186_1 rfl
                        have gL245_2 : jGet L245 2 = some (.int (i32 (n))) := eL245 ▸ jg_ne (by decide) gL186_2 rfl
                        have gL245_4 : jGet L245 4 = some (.int (i32 (many))) := eL245 ▸ jg_ne (by decide) gL186_4 rfl
                        have gL245_5 : jGet L245 5 = some (.int (i32 (r57))) := eL245 ▸ jg_ne (by decide) gL186_5 rfl
                        have gL245_6 : jGet L245 6 = some (.int (i32 (r122))) := eL245 ▸ jg_ne (by decide) gL186_6 rfl
                        have gL245_3 : jGet L245 3 = some (.int (i32 (r57))) := eL245 ▸ jg_eq
                        refine jx_inc (pc' := 127) (l' := jSto1 L245 4 (.int (i32 ((many + (1)))))) (x := many) rfl gL245_4 (by decide) rfl rfl ?_
                        obtain ⟨L246, eL246⟩ : ∃ q, q = jSto1 L245 4 (.int (i32 ((many + (1))))) := ⟨_, rfl⟩
                        rw [← eL246]
                        have gL246_0 : jGet L246 0 = some (.ref 66) := eL246 ▸ jg_ne (by decide) gL245_0 rfl
                        have gL246_1 : jGet L246 1 = some (.int (i32 (lv))) := eL246 ▸ jg_ne (by decide) gL245_1 rfl
                        have gL246_2 : jGet L246 2 = some (.int (i32 (n))) := eL246 ▸ jg_ne (by decide) gL245_2 rfl
                        have gL246_5 : jGet L246 5 = some (.int (i32 (r57))) := eL246 ▸ jg_ne (by decide) gL245_5 rfl
                        have gL246_6 : jGet L246 6 = some (.int (i32 (r122))) := eL246 ▸ jg_ne (by decide) gL245_6 rfl
                        have gL246_3 : jGet L246 3 = some (.int (i32 (r57))) := eL246 ▸ jg_ne (by decide) gL245_3 rfl
                        have gL246_4 : jGet L246 4 = some (.int (i32 ((many + (1))))) := eL246 ▸ jg_eq
                        refine jx_go (tg := 24) rfl rfl ?_
                        exact ih24 _ (by omega) L246 G210 A211 (n) (r57) ((many + (1))) (ln2_123) (at2_124) (fk2_125) (nd2_126) (sy2_127) (na2_128) (vi2_129) (lf2_130) (ec2_131) rfl gL246_0 gL246_1 gL246_2 gL246_3 gL246_4 hW212 hF216 hP217 hS218 hV219 (((hF213.1 9 rfl).trans (e138))) (((hF213.1 10 rfl).trans (e139))) (((hF213.1 16 rfl).trans (e140))) (((hF213.1 31 rfl).trans (e141))) (((hF213.1 19 rfl).trans (e142))) (((hF213.1 28 rfl).trans (e143))) (((hF213.1 29 rfl).trans (e144))) ((congrFun ((hF213.2 3 rfl).trans ((congrFun eA193 3).trans (uA_ne (by decide)))) _).trans (e145)) (ec220) (by omega) (by omega) (by omega) (by omega) (by omega) (by omega) (by omega) (by omega) (by omega) (by omega) (by omega) (by omega) (by omega) (by omega) (by omega) (by omega) (by omega) (by omega) ((ND_sf sf236)) ((CL_eq (CL_sb (by omega) sf237) (by omega) (by omega) (by omega) (by omega) (by omega) (by omega))) (by omega) ((NdM_w (NdM_app (sy := sy) sf238 (NdM_app (sy := sy) sf241 sf244 (by omega) (by omega) (by omega)) (by omega) (by omega) (by omega)) (by omega) (by omega) (by omega)))
                    · have _q := h192
                      exact absurd h192 (by omega)
              · have _q := h119
                exact absurd h119 (by omega)
        · have _q := h30
          refine jx_ld (pc' := 40) (l' := L) (st' := [.ref 66]) rfl (jl_aloadn gL_0) ?_
          refine jx_ar (pc' := 41) (st' := [.int (i32 (1)), .ref 66]) rfl rfl rfl rfl ?_
          refine jx_ld (pc' := 42) (l' := L) (st' := [.ref 66, .int (i32 (1)), .ref 66]) rfl (jl_aloadn gL_0) ?_
          refine jr_get (pc' := 45) (i := 6) (v := .ref 70) rfl rfl (by decide) rfl rfl ?_
          refine jx_ld (pc' := 46) (l' := L) (st' := [.ref 66, .ref 70, .int (i32 (1)), .ref 66]) rfl (jl_aloadn gL_0) ?_
          refine jr_get (pc' := 49) (i := 9) (v := .int (i32 (ln1))) rfl rfl (by decide) (rFv_eq (by decide) (show G2 9 = ln1 from ((hF7.1 9 rfl).trans (ex_ln1)))) rfl ?_
          refine jr_ldv (pc' := 50) (i := 3) (m := 3001) (z := ln1) (y := lf1) rfl (by decide) rfl (by decide) (Int.le_trans (by decide : (0 : Int) ≤ 0) b_ln1.1) (Int.lt_of_le_of_lt b_ln1.2 (by decide : (3000 : Int) < ((3001 : Nat) : Int))) rfl (show A3 3 (ln1).toNat = lf1 from (congrFun (hF7.2 3 rfl) _).trans (ex_lf1)) ?_
          refine jx_ld (pc' := 51) (l' := L) (st' := [.ref 66, .int (i32 (lf1)), .int (i32 (1)), .ref 66]) rfl (jl_aloadn gL_0) ?_
          refine jr_get (pc' := 54) (i := 5) (v := .ref 69) rfl rfl (by decide) rfl rfl ?_
          refine jx_ld (pc' := 55) (l' := L) (st' := [.ref 66, .ref 69, .int (i32 (lf1)), .int (i32 (1)), .ref 66]) rfl (jl_aloadn gL_0) ?_
          refine jr_get (pc' := 58) (i := 9) (v := .int (i32 (ln1))) rfl rfl (by decide) (rFv_eq (by decide) (show G2 9 = ln1 from ((hF7.1 9 rfl).trans (ex_ln1)))) rfl ?_
          have b247 : (0 : Int) ≤ A 2 (ln1).toNat ∧ A 2 (ln1).toNat ≤ 3000 := hW.2 2 _
          refine jr_ldv (pc' := 59) (i := 2) (m := 3001) (z := ln1) (y := A 2 (ln1).toNat) rfl (by decide) rfl (by decide) (Int.le_trans (by decide : (0 : Int) ≤ 0) b_ln1.1) (Int.lt_of_le_of_lt b_ln1.2 (by decide : (3000 : Int) < ((3001 : Nat) : Int))) rfl (show A3 2 (ln1).toNat = A 2 (ln1).toNat from (congrFun ((hF7.2 2 rfl).trans (hFx.2 2 rfl)) _)) ?_
          refine jx_sub (pc' := 60) rfl rfl ?_
          refine jx_vr (pc' := 63) (as := [.int (i32 (1)), .int (i32 ((lf1 - A 2 (ln1).toNat)))]) (st := []) rfl rfl rfl rfl ⟨rfl, rfl, Nat.le_of_ble_eq_true rfl⟩ rfl rfl (c_fail (dd := d) (hd := by omega) (hW := hW6) (kind := 1) (place := (lf1 - A 2 (ln1).toNat)) (fk := fk2_5) (e_fk := show G2 16 = fk2_5 from (e9))  (h_kind := ⟨(by decide), (by decide)⟩) (h_place := ⟨(by omega), (by omega)⟩)  (p_0 := by omega) (p_1 := by omega)) (fun o V' hq => ?_)
          obtain ⟨G248, A249, fk2_250, rfl, rfl, hW251, hF252, e253, p254, -⟩ := hq
          have hF256 := Fr_tr hF11 hF252 (Fr_sub (by decide)) (Fr_sub (by decide))
          have hP257 := Pf_f hP12 hF252 (by decide)
          have hS258 := Fx_f hS13 hF252 (by decide)
          have hV259 := Fx_f hV14 hF252 (by decide)
          have sf260 : ND A249 (n) (32) (0) (0) (0) (0) (Ax 21 (n).toNat) (0) := ND_ag (by omega) (Ag_fr hF252 (by decide)) sf15
          have sf261 : CL 2 A249 (sy1) pb (k) (Vs) (n) (last) (many) (n + 1) (nd1) (sy) (sy1) := CL_ag (by omega) (by omega) (Sg_fr hF252 (by decide)) (Qg_fr hF252 (by decide)) (Ag_fr hF252 (by decide)) (congrFun (hF252.2 21 rfl) _) sf16
          have sf262 : NdM A249 (nd) (nd1) (sy) := NdM_f hF252 (by decide) sf17
          have ec263 : ecn A249 (G248 31) = ec1 := (ecn_f (hF252.2 15 rfl) (hF252.1 31 rfl)).trans ec18
          have bfk2_250 : (0 : Int) ≤ fk2_250 ∧ fk2_250 ≤ 6 := e253 ▸ hW251.1 16
          refine .inl ⟨rfl, ?_⟩
          refine jx_ar (pc' := 64) (st' := [.int (i32 (0))]) rfl rfl rfl rfl ?_
          refine jx_rt (v := some (.int (i32 (0)))) rfl rfl rfl rfl rfl rfl ?_
          exact ⟨_, _, _, ln1, at1, fk2_250, nd1, sy1, na1, vi1, lf1, ec1, rfl, rfl, hW251, hF256, hP257, hS258, hV259, by omega, ((hF252.1 9 rfl).trans ((hF7.1 9 rfl).trans (ex_ln1))), ((hF252.1 10 rfl).trans ((hF7.1 10 rfl).trans (ex_at1))), (e253), ((hF252.1 31 rfl).trans ((hF7.1 31 rfl).trans (ex_nd1))), ((hF252.1 19 rfl).trans ((hF7.1 19 rfl).trans (ex_sy1))), ((hF252.1 28 rfl).trans ((hF7.1 28 rfl).trans (ex_na1))), ((hF252.1 29 rfl).trans ((hF7.1 29 rfl).trans (ex_vi1))), (congrFun ((hF252.2 3 rfl).trans (hF7.2 3 rfl)) _).trans (ex_lf1), ec263, by omega, by omega, by omega, by omega, by omega, by omega, by omega, by omega, by omega, by omega, by first | exact Or.inl (⟨by omega, by omega⟩)⟩
    · have _q : True := trivial
      refine jx_if_eq (pc' := 32) (tg := 130) rfl rfl rfl (by decide) (by decide) (fun h264 => ?_) (fun h264 => ?_)
      · have _q := h264
        refine jx_ld (pc' := 131) (l' := L) (st' := [.ref 66]) rfl (jl_aloadn gL_0) ?_
        refine jx_vr (pc' := 134) (as := []) (st := []) rfl rfl rfl rfl ⟨rfl, rfl, Nat.le_of_ble_eq_true rfl⟩ rfl rfl (c_bad (dd := d) (hd := by omega) (hW := hW6)  (fk := fk2_5) (e_fk := show G2 16 = fk2_5 from (e9))    ) (fun o V' hq => ?_)
        obtain ⟨r265, rfl, rfl, b266, q267⟩ := hq
        refine .inr ⟨_, rfl, ?_⟩
        rcases q267 with ⟨rfl, a268⟩ | ⟨rfl, a269⟩
        · have _q : True := trivial
          refine jx_if_ne (pc' := 137) (tg := 150) rfl rfl rfl (by decide) (by decide) (fun h270 => ?_) (fun h270 => ?_)
          · have _q := h270
            refine jx_ld (pc' := 151) (l' := L) (st' := [.ref 66]) rfl (jl_aloadn gL_0) ?_
            refine jr_get (pc' := 154) (i := 35) (v := .ref 85) rfl rfl (by decide) rfl rfl ?_
            refine jx_ld (pc' := 155) (l' := L) (st' := [.int (i32 (n)), .ref 85]) rfl (jl_iloadn gL_2) ?_
            refine jx_ld (pc' := 157) (l' := L) (st' := [.int (i32 (many)), .int (i32 (n)), .ref 85]) rfl (jl_iload gL_4) ?_
            refine jr_st (pc' := 158) (i := 18) (m := 7000) (z := n) (y := many) rfl (by decide) rfl (by decide) (by omega) (by omega) rfl ?_
            have hW272 : Wk G2 (uA A3 18 (n).toNat (many)) := Wk_a hW6 (show (-2147483648 : Int) ≤ many by omega) (show many ≤ (2147483647 : Int) by omega)
            have hF273 := Fr_a (z := many) (k := 18) (n := (n).toNat) hF11 (by decide)
            obtain ⟨A271, eA271⟩ : ∃ q, q = uA A3 18 (n).toNat (many) := ⟨_, rfl⟩
            rw [← eA271]
            rw [← eA271] at hW272 hF273
            have q274 : A271 18 (n).toNat = many := by rw [eA271]; exact uA_eq
            have hP275 : Pf nd A A271 := eA271 ▸ Pf_a hP12 (z := n) (by omega) (by omega)
            have hS276 : Fx sr (sy) A A271 := eA271 ▸ Fx_n hS13 rfl
            have hV277 : Fx [14] (vi) A A271 := eA271 ▸ Fx_n hV14 rfl
            have sf278 : ND A271 (n) (32) (0) (many) (0) (0) (Ax 21 (n).toNat) (0) := ND_b eA271 sf15
            have sf279 : CL 2 A271 (sy1) pb (k) (Vs) (n) (last) (many) (n + 1) (nd1) (sy) (sy1) := CL_ag (by omega) (by omega) (Sg_ne eA271 rfl) (Qg_ne eA271 rfl) (Ag_st eA271 (by omega) (by omega)) ((congrFun ((congrFun eA271 21).trans (uA_ne (by decide))) _)) sf16
            have sf280 : NdM A271 (nd) (nd1) (sy) := NdM_st eA271 (by decide) sf17
            have ec281 : ecn A271 (G2 31) = ec1 := (ecn_e ((congrFun eA271 15).trans (uA_ne (by decide)))).trans ec18
            refine jx_ld (pc' := 159) (l' := L) (st' := [.int (i32 (n))]) rfl (jl_iloadn gL_2) ?_
            refine jx_rt (v := some (.int (i32 (n)))) rfl rfl rfl rfl rfl rfl ?_
            exact ⟨_, _, _, ln1, at1, fk2_5, nd1, sy1, na1, vi1, lf1, ec1, rfl, rfl, hW272, hF273, hP275, hS276, hV277, by omega, ((hF7.1 9 rfl).trans (ex_ln1)), ((hF7.1 10 rfl).trans (ex_at1)), (e9), ((hF7.1 31 rfl).trans (ex_nd1)), ((hF7.1 19 rfl).trans (ex_sy1)), ((hF7.1 28 rfl).trans (ex_na1)), ((hF7.1 29 rfl).trans (ex_vi1)), (congrFun (((congrFun eA271 3).trans (uA_ne (by decide))).trans (hF7.2 3 rfl)) _).trans (ex_lf1), ec281, by omega, by omega, by omega, by omega, by omega, by omega, by omega, by omega, by omega, by omega, by first | exact Or.inl (⟨by omega, by omega⟩)⟩
          · have _q := h270
            exact absurd h270 (by omega)
        · have _q : True := trivial
          exfalso
          omega
      · have _q := h264
        exact absurd h264 (by omega)
    · have _q : True := trivial
      refine jx_if_eq (pc' := 32) (tg := 130) rfl rfl rfl (by decide) (by decide) (fun h282 => ?_) (fun h282 => ?_)
      · have _q := h282
        refine jx_ld (pc' := 131) (l' := L) (st' := [.ref 66]) rfl (jl_aloadn gL_0) ?_
        refine jx_vr (pc' := 134) (as := []) (st := []) rfl rfl rfl rfl ⟨rfl, rfl, Nat.le_of_ble_eq_true rfl⟩ rfl rfl (c_bad (dd := d) (hd := by omega) (hW := hW6)  (fk := fk2_5) (e_fk := show G2 16 = fk2_5 from (e9))    ) (fun o V' hq => ?_)
        obtain ⟨r283, rfl, rfl, b284, q285⟩ := hq
        refine .inr ⟨_, rfl, ?_⟩
        rcases q285 with ⟨rfl, a286⟩ | ⟨rfl, a287⟩
        · have _q : True := trivial
          exfalso
          omega
        · have _q : True := trivial
          refine jx_if_ne (pc' := 137) (tg := 150) rfl rfl rfl (by decide) (by decide) (fun h288 => ?_) (fun h288 => ?_)
          · have _q := h288
            exact absurd h288 (by omega)
          · have _q := h288
            refine jx_ld (pc' := 139) (l' := L) (st' := [.int (i32 (many))]) rfl (jl_iload gL_4) ?_
            refine jx_if_ne (pc' := 142) (tg := 150) rfl rfl rfl (Int.le_trans (by decide : (-2147483648 : Int) ≤ -2147483648) rx_many.1) (Int.le_trans rx_many.2 (by decide : (2147483647 : Int) ≤ 2147483647)) (fun h289 => ?_) (fun h289 => ?_)
            · have _q := h289
              refine jx_ld (pc' := 151) (l' := L) (st' := [.ref 66]) rfl (jl_aloadn gL_0) ?_
              refine jr_get (pc' := 154) (i := 35) (v := .ref 85) rfl rfl (by decide) rfl rfl ?_
              refine jx_ld (pc' := 155) (l' := L) (st' := [.int (i32 (n)), .ref 85]) rfl (jl_iloadn gL_2) ?_
              refine jx_ld (pc' := 157) (l' := L) (st' := [.int (i32 (many)), .int (i32 (n)), .ref 85]) rfl (jl_iload gL_4) ?_
              refine jr_st (pc' := 158) (i := 18) (m := 7000) (z := n) (y := many) rfl (by decide) rfl (by decide) (by omega) (by omega) rfl ?_
              have hW291 : Wk G2 (uA A3 18 (n).toNat (many)) := Wk_a hW6 (show (-2147483648 : Int) ≤ many by omega) (show many ≤ (2147483647 : Int) by omega)
              have hF292 := Fr_a (z := many) (k := 18) (n := (n).toNat) hF11 (by decide)
              obtain ⟨A290, eA290⟩ : ∃ q, q = uA A3 18 (n).toNat (many) := ⟨_, rfl⟩
              rw [← eA290]
              rw [← eA290] at hW291 hF292
              have q293 : A290 18 (n).toNat = many := by rw [eA290]; exact uA_eq
              have hP294 : Pf nd A A290 := eA290 ▸ Pf_a hP12 (z := n) (by omega) (by omega)
              have hS295 : Fx sr (sy) A A290 := eA290 ▸ Fx_n hS13 rfl
              have hV296 : Fx [14] (vi) A A290 := eA290 ▸ Fx_n hV14 rfl
              have sf297 : ND A290 (n) (32) (0) (many) (0) (0) (Ax 21 (n).toNat) (0) := ND_b eA290 sf15
              have sf298 : CL 2 A290 (sy1) pb (k) (Vs) (n) (last) (many) (n + 1) (nd1) (sy) (sy1) := CL_ag (by omega) (by omega) (Sg_ne eA290 rfl) (Qg_ne eA290 rfl) (Ag_st eA290 (by omega) (by omega)) ((congrFun ((congrFun eA290 21).trans (uA_ne (by decide))) _)) sf16
              have sf299 : NdM A290 (nd) (nd1) (sy) := NdM_st eA290 (by decide) sf17
              have ec300 : ecn A290 (G2 31) = ec1 := (ecn_e ((congrFun eA290 15).trans (uA_ne (by decide)))).trans ec18
              refine jx_ld (pc' := 159) (l' := L) (st' := [.int (i32 (n))]) rfl (jl_iloadn gL_2) ?_
              refine jx_rt (v := some (.int (i32 (n)))) rfl rfl rfl rfl rfl rfl ?_
              exact ⟨_, _, _, ln1, at1, fk2_5, nd1, sy1, na1, vi1, lf1, ec1, rfl, rfl, hW291, hF292, hP294, hS295, hV296, by omega, ((hF7.1 9 rfl).trans (ex_ln1)), ((hF7.1 10 rfl).trans (ex_at1)), (e9), ((hF7.1 31 rfl).trans (ex_nd1)), ((hF7.1 19 rfl).trans (ex_sy1)), ((hF7.1 28 rfl).trans (ex_na1)), ((hF7.1 29 rfl).trans (ex_vi1)), (congrFun (((congrFun eA290 3).trans (uA_ne (by decide))).trans (hF7.2 3 rfl)) _).trans (ex_lf1), ec300, by omega, by omega, by omega, by omega, by omega, by omega, by omega, by omega, by omega, by omega, by first | exact Or.inr ((⟨by omega, by omega, by omega, by omega, by omega, by omega, by omega, (wS_alt sf297 (RL_eq (RL_cl sf298) (by omega) (by omega) (by omega) (by omega) (by omega)) (by omega) (by omega)), (NX_nd sf297), by omega, sf299⟩))⟩
            · have _q := h289
              refine jx_ld (pc' := 143) (l' := L) (st' := [.ref 66]) rfl (jl_aloadn gL_0) ?_
              refine jx_ld (pc' := 144) (l' := L) (st' := [.int (i32 (lv)), .ref 66]) rfl (jl_iloadn gL_1) ?_
              refine jx_ar (pc' := 145) (st' := [.int (i32 (1)), .int (i32 (lv)), .ref 66]) rfl rfl rfl rfl ?_
              refine jx_add (pc' := 146) rfl rfl ?_
              refine jx_vr (pc' := 149) (as := [.int (i32 ((lv + 1)))]) (st := []) rfl rfl rfl rfl ⟨rfl, rfl, Nat.le_of_ble_eq_true rfl⟩ rfl rfl (c_needLevel (dd := d) (hd := by omega) (hW := hW6) (lv := (lv + 1)) (ln := ln1) (e_ln := show G2 9 = ln1 from ((hF7.1 9 rfl).trans (ex_ln1))) (li := li) (e_li := show G2 3 = li from ((hF7.1 3 rfl).trans ((hFx.1 3 rfl).trans (e_li)))) (fk := fk2_5) (e_fk := show G2 16 = fk2_5 from (e9)) (ll := A 5 (ln1).toNat) (e_ll := show A3 5 (ln1).toNat = A 5 (ln1).toNat from (congrFun ((hF7.2 5 rfl).trans (hFx.2 5 rfl)) _))  (h_lv := ⟨(by omega), (by omega)⟩)  ) (fun o V' hq => ?_)
              obtain ⟨G301, A302, r303, fk2_304, rfl, rfl, hW305, hF306, b307, e308, q309⟩ := hq
              have hF310 := Fr_tr hF11 hF306 (Fr_sub (by decide)) (Fr_sub (by decide))
              have hP311 := Pf_f hP12 hF306 (by decide)
              have hS312 := Fx_f hS13 hF306 (by decide)
              have hV313 := Fx_f hV14 hF306 (by decide)
              have sf314 : ND A302 (n) (32) (0) (0) (0) (0) (Ax 21 (n).toNat) (0) := ND_ag (by omega) (Ag_fr hF306 (by decide)) sf15
              have sf315 : CL 2 A302 (sy1) pb (k) (Vs) (n) (last) (many) (n + 1) (nd1) (sy) (sy1) := CL_ag (by omega) (by omega) (Sg_fr hF306 (by decide)) (Qg_fr hF306 (by decide)) (Ag_fr hF306 (by decide)) (congrFun (hF306.2 21 rfl) _) sf16
              have sf316 : NdM A302 (nd) (nd1) (sy) := NdM_f hF306 (by decide) sf17
              have ec317 : ecn A302 (G301 31) = ec1 := (ecn_f (hF306.2 15 rfl) (hF306.1 31 rfl)).trans ec18
              have bfk2_304 : (0 : Int) ≤ fk2_304 ∧ fk2_304 ≤ 6 := e308 ▸ hW305.1 16
              refine .inr ⟨_, rfl, ?_⟩
              rcases q309 with ⟨rfl, a318, a319, a320, a321⟩ | ⟨rfl, a322⟩
              · have _q : True := trivial
                have b323 : (0 : Int) ≤ A 4 (ln1).toNat ∧ A 4 (ln1).toNat ≤ 3000 := hW.2 4 _
                have lt324 : lf1 < A 4 (ln1).toNat := LT_at (LT_ext (((hF306.1 3 rfl).trans ((hF7.1 3 rfl).trans (hFx.1 3 rfl)))) (((hF306.2 3 rfl).trans ((hF7.2 3 rfl).trans (hFx.2 3 rfl)))) (((hF306.2 4 rfl).trans ((hF7.2 4 rfl).trans (hFx.2 4 rfl)))) i_LT) (show G301 3 = li from ((hF306.1 3 rfl).trans ((hF7.1 3 rfl).trans ((hFx.1 3 rfl).trans (e_li))))) (show A302 3 (ln1).toNat = lf1 from (congrFun ((hF306.2 3 rfl).trans (hF7.2 3 rfl)) _).trans (ex_lf1)) (show A302 4 (ln1).toNat = A 4 (ln1).toNat from (congrFun ((hF306.2 4 rfl).trans ((hF7.2 4 rfl).trans (hFx.2 4 rfl))) _)) (by omega) (by omega)
                refine jx_ar (pc' := 150) (st' := []) rfl rfl rfl rfl ?_
                refine jx_ld (pc' := 151) (l' := L) (st' := [.ref 66]) rfl (jl_aloadn gL_0) ?_
                refine jr_get (pc' := 154) (i := 35) (v := .ref 85) rfl rfl (by decide) rfl rfl ?_
                refine jx_ld (pc' := 155) (l' := L) (st' := [.int (i32 (n)), .ref 85]) rfl (jl_iloadn gL_2) ?_
                refine jx_ld (pc' := 157) (l' := L) (st' := [.int (i32 (many)), .int (i32 (n)), .ref 85]) rfl (jl_iload gL_4) ?_
                refine jr_st (pc' := 158) (i := 18) (m := 7000) (z := n) (y := many) rfl (by decide) rfl (by decide) (by omega) (by omega) rfl ?_
                have hW326 : Wk G301 (uA A302 18 (n).toNat (many)) := Wk_a hW305 (show (-2147483648 : Int) ≤ many by omega) (show many ≤ (2147483647 : Int) by omega)
                have hF327 := Fr_a (z := many) (k := 18) (n := (n).toNat) hF310 (by decide)
                obtain ⟨A325, eA325⟩ : ∃ q, q = uA A302 18 (n).toNat (many) := ⟨_, rfl⟩
                rw [← eA325]
                rw [← eA325] at hW326 hF327
                have q328 : A325 18 (n).toNat = many := by rw [eA325]; exact uA_eq
                have hP329 : Pf nd A A325 := eA325 ▸ Pf_a hP311 (z := n) (by omega) (by omega)
                have hS330 : Fx sr (sy) A A325 := eA325 ▸ Fx_n hS312 rfl
                have hV331 : Fx [14] (vi) A A325 := eA325 ▸ Fx_n hV313 rfl
                have sf332 : ND A325 (n) (32) (0) (many) (0) (0) (Ax 21 (n).toNat) (0) := ND_b eA325 sf314
                have sf333 : CL 2 A325 (sy1) pb (k) (Vs) (n) (last) (many) (n + 1) (nd1) (sy) (sy1) := CL_ag (by omega) (by omega) (Sg_ne eA325 rfl) (Qg_ne eA325 rfl) (Ag_st eA325 (by omega) (by omega)) ((congrFun ((congrFun eA325 21).trans (uA_ne (by decide))) _)) sf315
                have sf334 : NdM A325 (nd) (nd1) (sy) := NdM_st eA325 (by decide) sf316
                have ec335 : ecn A325 (G301 31) = ec1 := (ecn_e ((congrFun eA325 15).trans (uA_ne (by decide)))).trans ec317
                refine jx_ld (pc' := 159) (l' := L) (st' := [.int (i32 (n))]) rfl (jl_iloadn gL_2) ?_
                refine jx_rt (v := some (.int (i32 (n)))) rfl rfl rfl rfl rfl rfl ?_
                exact ⟨_, _, _, ln1, at1, fk2_304, nd1, sy1, na1, vi1, lf1, ec1, rfl, rfl, hW326, hF327, hP329, hS330, hV331, by omega, ((hF306.1 9 rfl).trans ((hF7.1 9 rfl).trans (ex_ln1))), ((hF306.1 10 rfl).trans ((hF7.1 10 rfl).trans (ex_at1))), (e308), ((hF306.1 31 rfl).trans ((hF7.1 31 rfl).trans (ex_nd1))), ((hF306.1 19 rfl).trans ((hF7.1 19 rfl).trans (ex_sy1))), ((hF306.1 28 rfl).trans ((hF7.1 28 rfl).trans (ex_na1))), ((hF306.1 29 rfl).trans ((hF7.1 29 rfl).trans (ex_vi1))), (congrFun (((congrFun eA325 3).trans (uA_ne (by decide))).trans ((hF306.2 3 rfl).trans (hF7.2 3 rfl))) _).trans (ex_lf1), ec335, by omega, by omega, by omega, by omega, by omega, by omega, by omega, by omega, by omega, by omega, by first | exact Or.inr ((⟨by omega, by omega, by omega, by omega, by omega, by omega, by omega, (wS_alt sf332 (RL_eq (RL_cl sf333) (by omega) (by omega) (by omega) (by omega) (by omega)) (by omega) (by omega)), (NX_nd sf332), by omega, sf334⟩))⟩
              · have _q : True := trivial
                refine jx_ar (pc' := 150) (st' := []) rfl rfl rfl rfl ?_
                refine jx_ld (pc' := 151) (l' := L) (st' := [.ref 66]) rfl (jl_aloadn gL_0) ?_
                refine jr_get (pc' := 154) (i := 35) (v := .ref 85) rfl rfl (by decide) rfl rfl ?_
                refine jx_ld (pc' := 155) (l' := L) (st' := [.int (i32 (n)), .ref 85]) rfl (jl_iloadn gL_2) ?_
                refine jx_ld (pc' := 157) (l' := L) (st' := [.int (i32 (many)), .int (i32 (n)), .ref 85]) rfl (jl_iload gL_4) ?_
                refine jr_st (pc' := 158) (i := 18) (m := 7000) (z := n) (y := many) rfl (by decide) rfl (by decide) (by omega) (by omega) rfl ?_
                have hW337 : Wk G301 (uA A302 18 (n).toNat (many)) := Wk_a hW305 (show (-2147483648 : Int) ≤ many by omega) (show many ≤ (2147483647 : Int) by omega)
                have hF338 := Fr_a (z := many) (k := 18) (n := (n).toNat) hF310 (by decide)
                obtain ⟨A336, eA336⟩ : ∃ q, q = uA A302 18 (n).toNat (many) := ⟨_, rfl⟩
                rw [← eA336]
                rw [← eA336] at hW337 hF338
                have q339 : A336 18 (n).toNat = many := by rw [eA336]; exact uA_eq
                have hP340 : Pf nd A A336 := eA336 ▸ Pf_a hP311 (z := n) (by omega) (by omega)
                have hS341 : Fx sr (sy) A A336 := eA336 ▸ Fx_n hS312 rfl
                have hV342 : Fx [14] (vi) A A336 := eA336 ▸ Fx_n hV313 rfl
                have sf343 : ND A336 (n) (32) (0) (many) (0) (0) (Ax 21 (n).toNat) (0) := ND_b eA336 sf314
                have sf344 : CL 2 A336 (sy1) pb (k) (Vs) (n) (last) (many) (n + 1) (nd1) (sy) (sy1) := CL_ag (by omega) (by omega) (Sg_ne eA336 rfl) (Qg_ne eA336 rfl) (Ag_st eA336 (by omega) (by omega)) ((congrFun ((congrFun eA336 21).trans (uA_ne (by decide))) _)) sf315
                have sf345 : NdM A336 (nd) (nd1) (sy) := NdM_st eA336 (by decide) sf316
                have ec346 : ecn A336 (G301 31) = ec1 := (ecn_e ((congrFun eA336 15).trans (uA_ne (by decide)))).trans ec317
                refine jx_ld (pc' := 159) (l' := L) (st' := [.int (i32 (n))]) rfl (jl_iloadn gL_2) ?_
                refine jx_rt (v := some (.int (i32 (n)))) rfl rfl rfl rfl rfl rfl ?_
                exact ⟨_, _, _, ln1, at1, fk2_304, nd1, sy1, na1, vi1, lf1, ec1, rfl, rfl, hW337, hF338, hP340, hS341, hV342, by omega, ((hF306.1 9 rfl).trans ((hF7.1 9 rfl).trans (ex_ln1))), ((hF306.1 10 rfl).trans ((hF7.1 10 rfl).trans (ex_at1))), (e308), ((hF306.1 31 rfl).trans ((hF7.1 31 rfl).trans (ex_nd1))), ((hF306.1 19 rfl).trans ((hF7.1 19 rfl).trans (ex_sy1))), ((hF306.1 28 rfl).trans ((hF7.1 28 rfl).trans (ex_na1))), ((hF306.1 29 rfl).trans ((hF7.1 29 rfl).trans (ex_vi1))), (congrFun (((congrFun eA336 3).trans (uA_ne (by decide))).trans ((hF306.2 3 rfl).trans (hF7.2 3 rfl))) _).trans (ex_lf1), ec346, by omega, by omega, by omega, by omega, by omega, by omega, by omega, by omega, by omega, by omega, by first | exact Or.inl (⟨by omega, by omega⟩)⟩
      · have _q := h282
        exact absurd h282 (by omega)
set_option maxRecDepth 20000 in
set_option maxHeartbeats 4000000 in
theorem c_readAlt_w {X : jX} {k : Nat} (hP : RPw X k) {dd : Nat} {Vs : Nat → Prop} {sb pb : Int} (hvb : VB Vs sb) {c0 c1 : jC} {G : Nat → Int} {A : Nat → Nat → Int} {T : jH} {lv : Int} {ln li at0 fk nd sy na vi le op0 tk0 ec : Int} (hd : 8 * k + 82 ≤ dd) (hW : Wk G A) (e_ln : G 9 = ln) (e_li : G 3 = li) (e_at0 : G 10 = at0) (e_fk : G 16 = fk) (e_nd : G 31 = nd) (e_sy : G 19 = sy) (e_na : G 28 = na) (e_vi : G 29 = vi) (e_le : A 4 (ln).toNat = le) (e_op0 : G 15 = op0) (e_tk0 : G 11 = tk0) (e_ec : ecn A (G 31) = ec) (i_LT : LT G A) (i_SV : SV Vs sb G A) (i_PQ : PQ Vs sb pb G A) (h_lv : (-2147483648 : Int) ≤ lv ∧ lv ≤ 2147483647) (p_0 : 0 ≤ lv ∧ lv ≤ 15) (p_1 : 18 - lv ≤ ((k + 1 : Nat) : Int)) (p_2 : fk = 0) (p_3 : ln < li) (p_4 : at0 ≤ le) (p_5 : op0 = 0) (p_6 : nd ≤ 2 * at0 - tz tk0 + 30) (p_7 : sy ≤ na + 2) (p_8 : vi ≤ sy) (p_9 : sb = sy) (p_10 : 1 ≤ tk0) : wk X dd 302 [.ref 66, .int (i32 lv)] (rV c0 c1 G A T) (fun o V' => ∃ (G' : Nat → Int) (A' : Nat → Nat → Int) (r : Int) (ln2 : Int) (at2 : Int) (fk2 : Int) (nd2 : Int) (sy2 : Int) (na2 : Int) (vi2 : Int) (lf2 : Int) (ec2 : Int), V' = rV c0 c1 G' A' T ∧ o = .inl (some (.int (i32 r))) ∧ Wk G' A' ∧ Fr [9, 10, 11, 12, 13, 14, 15, 16, 17, 18, 19, 28, 29, 31] [6, 7, 8, 9, 10, 11, 12, 14, 15, 16, 17, 18, 19, 20, 21, 22, 23, 24, 28] G A G' A' ∧ Pf nd A A' ∧ Fx sr (sy) A A' ∧ Fx [14] (vi) A A' ∧ ((-2147483648 : Int) ≤ r ∧ r ≤ 2147483647) ∧ G' 9 = ln2 ∧ G' 10 = at2 ∧ G' 16 = fk2 ∧ G' 31 = nd2 ∧ G' 19 = sy2 ∧ G' 28 = na2 ∧ G' 29 = vi2 ∧ A' 3 (ln2).toNat = lf2 ∧ ecn A' (G' 31) = ec2 ∧ (at0 ≤ at2) ∧ (nd ≤ nd2) ∧ (sy ≤ sy2) ∧ (sy2 ≤ na2 + 2) ∧ (vi ≤ vi2) ∧ (vi2 ≤ vi + 1) ∧ (0 ≤ r) ∧ (r ≤ 6999) ∧ (ln ≤ ln2) ∧ (ln2 ≤ li) ∧ (((1 ≤ fk2) ∧ (nd2 - nd ≤ 2 * at2 - (2 * at0 - tz tk0) + 14)) ∨ ((fk2 = 0) ∧ (vi2 = vi) ∧ (ln < ln2) ∧ (nd2 - nd ≤ 2 * at2 - (2 * at0 - tz tk0)) ∧ (at2 < lf2 ∨ li ≤ ln2) ∧ (nd ≤ r) ∧ (r < nd2) ∧ (wSt A' (sy2) pb (wP A' (sy2) pb (k)) (Vs) (r) (nd) (nd2) (sy) (sy2)) ∧ (NX A' (r)) ∧ (nd2 - nd + 5 * (ec2 - ec) ≤ 2 * at2 - (2 * at0 - tz tk0)) ∧ (NdM A' (nd) (nd2) (sy))))) := by
  obtain ⟨d, rfl⟩ : ∃ d, dd = d + 1 := ⟨dd - 1, by omega⟩
  refine wk_of (e := jm302) rfl (Nat.le_of_ble_eq_true rfl) ?_
  show wj X d jm302 (0, [(0, .ref 66), (1, .int (i32 (lv)))], [], rV c0 c1 G A T) _
  have hF0 : Fr [9, 10, 11, 12, 13, 14, 15, 16, 17, 18, 19, 28, 29, 31] [6, 7, 8, 9, 10, 11, 12, 14, 15, 16, 17, 18, 19, 20, 21, 22, 23, 24, 28] G A G A := Fr_rf
  have hP0 : Pf nd A A := Pf_rf
  have hS0 : Fx sr (sy) A A := Fx_rf
  have hV0 : Fx [14] (vi) A A := Fx_rf
  have b_ln : (0 : Int) ≤ ln ∧ ln ≤ 3000 := e_ln ▸ hW.1 9
  have b_li : (0 : Int) ≤ li ∧ li ≤ 3000 := e_li ▸ hW.1 3
  have b_at0 : (0 : Int) ≤ at0 ∧ at0 ≤ 3002 := e_at0 ▸ hW.1 10
  have b_fk : (0 : Int) ≤ fk ∧ fk ≤ 6 := e_fk ▸ hW.1 16
  have b_nd : (0 : Int) ≤ nd ∧ nd ≤ 6999 := e_nd ▸ hW.1 31
  have b_sy : (0 : Int) ≤ sy ∧ sy ≤ 202 := e_sy ▸ hW.1 19
  have b_na : (0 : Int) ≤ na ∧ na ≤ 200 := e_na ▸ hW.1 28
  have b_vi : (0 : Int) ≤ vi ∧ vi ≤ 202 := e_vi ▸ hW.1 29
  have b_le : (0 : Int) ≤ le ∧ le ≤ 3000 := e_le ▸ hW.2 4 _
  have b_op0 : (-2147483648 : Int) ≤ op0 ∧ op0 ≤ 2147483647 := e_op0 ▸ hW.1 15
  have z_tk0 := tz_f tk0
  have b_tk0 : (0 : Int) ≤ tk0 ∧ tk0 ≤ 5 := e_tk0 ▸ hW.1 11
  refine jx_ld (pc' := 1) (l' := [(0, .ref 66), (1, .int (i32 (lv)))]) (st' := [.ref 66]) rfl (jl_aloadn rfl) ?_
  refine jx_ar (pc' := 3) (st' := [.int (i32 (32)), .ref 66]) rfl rfl rfl rfl ?_
  refine jx_ar (pc' := 4) (st' := [.int (i32 (0)), .int (i32 (32)), .ref 66]) rfl rfl rfl rfl ?_
  refine jx_ar (pc' := 5) (st' := [.int (i32 (0)), .int (i32 (0)), .int (i32 (32)), .ref 66]) rfl rfl rfl rfl ?_
  refine jx_ar (pc' := 6) (st' := [.int (i32 (0)), .int (i32 (0)), .int (i32 (0)), .int (i32 (32)), .ref 66]) rfl rfl rfl rfl ?_
  refine jx_ar (pc' := 7) (st' := [.int (i32 (0)), .int (i32 (0)), .int (i32 (0)), .int (i32 (0)), .int (i32 (32)), .ref 66]) rfl rfl rfl rfl ?_
  refine jx_vr (pc' := 10) (as := [.int (i32 (32)), .int (i32 (0)), .int (i32 (0)), .int (i32 (0)), .int (i32 (0))]) (st := []) rfl rfl rfl rfl ⟨rfl, rfl, Nat.le_of_ble_eq_true rfl⟩ rfl rfl (c_node_o (dd := d) (hd := by omega) (hW := hW) (kind := 32) (a := 0) (b := 0) (c := 0) (e := 0) (nd := nd) (e_nd := show G 31 = nd from (e_nd)) (ec := ec) (e_ec := show ecn A (G 31) = ec from e_ec) (sy := sy) (e_sy := show G 19 = sy from (e_sy))  (h_kind := ⟨(by decide), (by decide)⟩) (h_a := ⟨(by decide), (by decide)⟩) (h_b := ⟨(by decide), (by decide)⟩) (h_c := ⟨(by decide), (by decide)⟩) (h_e := ⟨(by decide), (by decide)⟩)  (p_0 := by omega) (p_1 := by omega) (p_2 := by omega)) (fun o V' hq => ?_)
  obtain ⟨G347, A348, nd2_349, ec2_350, rfl, rfl, hW351, hF352, hQ353, e354, e355, p356, p357, p358, p359, -⟩ := hq
  have hF361 := Fr_tr hF0 hF352 (Fr_sub (by decide)) (Fr_sub (by decide))
  have hP362 := Pf_tr hP0 hQ353 (by omega)
  have hS363 := Fx_f hS0 hF352 (by decide)
  have hV364 := Fx_f hV0 hF352 (by decide)
  have bnd2_349 : (0 : Int) ≤ nd2_349 ∧ nd2_349 ≤ 6999 := e354 ▸ hW351.1 31
  refine .inr ⟨_, rfl, ?_⟩
  refine jx_ld (pc' := 11) (l' := jSto1 [(0, .ref 66), (1, .int (i32 (lv)))] 2 (.int (i32 (nd)))) (st' := []) rfl rfl ?_
  obtain ⟨L365, eL365⟩ : ∃ q, q = jSto1 [(0, .ref 66), (1, .int (i32 (lv)))] 2 (.int (i32 (nd))) := ⟨_, rfl⟩
  rw [← eL365]
  have gL365_0 : jGet L365 0 = some (.ref 66) := eL365 ▸ jg_ne (by decide) (rfl : jGet [(0, .ref 66), (1, .int (i32 (lv)))] 0 = some (.ref 66)) rfl
  have gL365_1 : jGet L365 1 = some (.int (i32 (lv))) := eL365 ▸ jg_ne (by decide) (rfl : jGet [(0, .ref 66), (1, .int (i32 (lv)))] 1 = some (.int (i32 (lv)))) rfl
  have gL365_2 : jGet L365 2 = some (.int (i32 (nd))) := eL365 ▸ jg_eq
  refine jx_ld (pc' := 12) (l' := L365) (st' := [.ref 66]) rfl (jl_aloadn gL365_0) ?_
  refine jx_vr (pc' := 15) (as := []) (st := []) rfl rfl rfl rfl ⟨rfl, rfl, Nat.le_of_ble_eq_true rfl⟩ rfl rfl (c_next (dd := d) (hd := by omega) (hW := hW351)  (ln := ln) (e_ln := show G347 9 = ln from ((hF352.1 9 rfl).trans (e_ln))) (le := le) (e_le := show A348 4 (ln).toNat = le from (congrFun (hF352.2 4 rfl) _).trans (e_le)) (at0 := at0) (e_at0 := show G347 10 = at0 from ((hF352.1 10 rfl).trans (e_at0)))    (p_0 := by omega)) (fun o V' hq => ?_)
  obtain ⟨G366, A367, at2_368, tk2_369, rfl, rfl, hW370, hF371, e372, e373, p374, p375, p376, -⟩ := hq
  have hF378 := Fr_tr hF361 hF371 (Fr_sub (by decide)) (Fr_sub (by decide))
  have hP379 := Pf_f hP362 hF371 (by decide)
  have hS380 := Fx_f hS363 hF371 (by decide)
  have hV381 := Fx_f hV364 hF371 (by decide)
  have sf382 : ND A367 (nd) (32) (0) (0) (0) (0) (0) (0) := ND_ag (by omega) (Ag_fr hF371 (by decide)) p358
  have sf383 : NdM A367 (nd) (nd + 1) (sy) := NdM_f hF371 (by decide) p359
  have ec384 : ecn A367 (G366 31) = ec2_350 := (ecn_f (hF371.2 15 rfl) (hF371.1 31 rfl)).trans e355
  have bat2_368 : (0 : Int) ≤ at2_368 ∧ at2_368 ≤ 3002 := e372 ▸ hW370.1 10
  have ztk2_369 := tz_b tk2_369
  have btk2_369 : (0 : Int) ≤ tk2_369 ∧ tk2_369 ≤ 5 := e373 ▸ hW370.1 11
  refine .inl ⟨rfl, ?_⟩
  have pz385 : at0 + tz tk2_369 ≤ at2_368 := by omega
  refine jx_ld (pc' := 16) (l' := L365) (st' := [.ref 66]) rfl (jl_aloadn gL365_0) ?_
  refine jx_vr (pc' := 19) (as := []) (st := []) rfl rfl rfl rfl ⟨rfl, rfl, Nat.le_of_ble_eq_true rfl⟩ rfl rfl (c_endLine (dd := d) (hd := by omega) (hW := hW370)  (ln := ln) (e_ln := show G366 9 = ln from ((hF371.1 9 rfl).trans ((hF352.1 9 rfl).trans (e_ln)))) (li := li) (e_li := show G366 3 = li from ((hF371.1 3 rfl).trans ((hF352.1 3 rfl).trans (e_li)))) (fk := fk) (e_fk := show G366 16 = fk from ((hF371.1 16 rfl).trans ((hF352.1 16 rfl).trans (e_fk)))) (tk0 := tk2_369) (e_tk0 := show G366 11 = tk2_369 from (e373))    (p_0 := by omega)) (fun o V' hq => ?_)
  obtain ⟨G386, A387, ln2_388, fk2_389, rfl, rfl, hW390, hF391, e392, e393, q394⟩ := hq
  have hF395 := Fr_tr hF378 hF391 (Fr_sub (by decide)) (Fr_sub (by decide))
  have hP396 := Pf_f hP379 hF391 (by decide)
  have hS397 := Fx_f hS380 hF391 (by decide)
  have hV398 := Fx_f hV381 hF391 (by decide)
  have sf399 : ND A387 (nd) (32) (0) (0) (0) (0) (0) (0) := ND_ag (by omega) (Ag_fr hF391 (by decide)) sf382
  have sf400 : NdM A387 (nd) (nd + 1) (sy) := NdM_f hF391 (by decide) sf383
  have ec401 : ecn A387 (G386 31) = ec2_350 := (ecn_f (hF391.2 15 rfl) (hF391.1 31 rfl)).trans ec384
  have bln2_388 : (0 : Int) ≤ ln2_388 ∧ ln2_388 ≤ 3000 := e392 ▸ hW390.1 9
  have bfk2_389 : (0 : Int) ≤ fk2_389 ∧ fk2_389 ≤ 6 := e393 ▸ hW390.1 16
  refine .inl ⟨rfl, ?_⟩
  rcases q394 with ⟨a402, a403, a404, a405, a406⟩ | ⟨a407, a408⟩
  · have _q : True := trivial
    have b409 : (0 : Int) ≤ A 3 (ln2_388).toNat ∧ A 3 (ln2_388).toNat ≤ 3000 := hW.2 3 _
    have lt410 : ln2_388 < li → le < A 3 (ln2_388).toNat := fun hh => LT_nx (LT_ext (((hF391.1 3 rfl).trans ((hF371.1 3 rfl).trans (hF352.1 3 rfl)))) (((hF391.2 3 rfl).trans ((hF371.2 3 rfl).trans (hF352.2 3 rfl)))) (((hF391.2 4 rfl).trans ((hF371.2 4 rfl).trans (hF352.2 4 rfl)))) i_LT) (show G386 3 = li from ((hF391.1 3 rfl).trans ((hF371.1 3 rfl).trans ((hF352.1 3 rfl).trans (e_li))))) (show A387 4 (ln).toNat = le from (congrFun ((hF391.2 4 rfl).trans ((hF371.2 4 rfl).trans (hF352.2 4 rfl))) _).trans (e_le)) (show A387 3 (ln2_388).toNat = A 3 (ln2_388).toNat from (congrFun ((hF391.2 3 rfl).trans ((hF371.2 3 rfl).trans (hF352.2 3 rfl))) _)) (show ln2_388 = ln + 1 by omega) (by omega) hh
    refine jx_ar (pc' := 20) (st' := [.int (i32 (0))]) rfl rfl rfl rfl ?_
    refine jx_ld (pc' := 21) (l' := jSto1 L365 3 (.int (i32 (0)))) (st' := []) rfl rfl ?_
    obtain ⟨L411, eL411⟩ : ∃ q, q = jSto1 L365 3 (.int (i32 (0))) := ⟨_, rfl⟩
    rw [← eL411]
    have gL411_0 : jGet L411 0 = some (.ref 66) := eL411 ▸ jg_ne (by decide) gL365_0 rfl
    have gL411_1 : jGet L411 1 = some (.int (i32 (lv))) := eL411 ▸ jg_ne (by decide) gL365_1 rfl
    have gL411_2 : jGet L411 2 = some (.int (i32 (nd))) := eL411 ▸ jg_ne (by decide) gL365_2 rfl
    have gL411_3 : jGet L411 3 = some (.int (i32 (0))) := eL411 ▸ jg_eq
    refine jx_ar (pc' := 22) (st' := [.int (i32 (0))]) rfl rfl rfl rfl ?_
    refine jx_ld (pc' := 24) (l' := jSto1 L411 4 (.int (i32 (0)))) (st' := []) rfl rfl ?_
    obtain ⟨L412, eL412⟩ : ∃ q, q = jSto1 L411 4 (.int (i32 (0))) := ⟨_, rfl⟩
    rw [← eL412]
    have gL412_0 : jGet L412 0 = some (.ref 66) := eL412 ▸ jg_ne (by decide) gL411_0 rfl
    have gL412_1 : jGet L412 1 = some (.int (i32 (lv))) := eL412 ▸ jg_ne (by decide) gL411_1 rfl
    have gL412_2 : jGet L412 2 = some (.int (i32 (nd))) := eL412 ▸ jg_ne (by decide) gL411_2 rfl
    have gL412_3 : jGet L412 3 = some (.int (i32 (0))) := eL412 ▸ jg_ne (by decide) gL411_3 rfl
    have gL412_4 : jGet L412 4 = some (.int (i32 (0))) := eL412 ▸ jg_eq
    exact c_readAlt_w_at_24 (X := X) (k := k) (hP := hP) (d := d) (Vs := Vs) (sb := sb) (pb := pb) (hvb := hvb) (c0 := c0) (c1 := c1) (G := G) (A := A) (T := T) (lv := lv) (ln := ln) (li := li) (at0 := at0) (fk := fk) (nd := nd) (sy := sy) (na := na) (vi := vi) (le := le) (op0 := op0) (tk0 := tk0) (ec := ec) (hd := hd) (hW := hW) (e_ln := e_ln) (e_li := e_li) (e_at0 := e_at0) (e_fk := e_fk) (e_nd := e_nd) (e_sy := e_sy) (e_na := e_na) (e_vi := e_vi) (e_le := e_le) (e_op0 := e_op0) (e_tk0 := e_tk0) (e_ec := e_ec) (i_LT := i_LT) (i_SV := i_SV) (i_PQ := i_PQ) (h_lv := h_lv) (p_0 := p_0) (p_1 := p_1) (p_2 := p_2) (p_3 := p_3) (p_4 := p_4) (p_5 := p_5) (p_6 := p_6) (p_7 := p_7) (p_8 := p_8) (p_9 := p_9) (p_10 := p_10) _ L412 G386 A387 (nd) (0) (0) (ln2_388) (at2_368) (fk2_389) (nd2_349) (sy) (na) (vi) (A 3 (ln2_388).toNat) (ec2_350) rfl gL412_0 gL412_1 gL412_2 gL412_3 gL412_4 hW390 hF395 hP396 hS397 hV398 ((e392)) (((hF391.1 10 rfl).trans (e372))) ((e393)) (((hF391.1 31 rfl).trans ((hF371.1 31 rfl).trans (e354)))) (((hF391.1 19 rfl).trans ((hF371.1 19 rfl).trans ((hF352.1 19 rfl).trans (e_sy))))) (((hF391.1 28 rfl).trans ((hF371.1 28 rfl).trans ((hF352.1 28 rfl).trans (e_na))))) (((hF391.1 29 rfl).trans ((hF371.1 29 rfl).trans ((hF352.1 29 rfl).trans (e_vi))))) ((congrFun ((hF391.2 3 rfl).trans ((hF371.2 3 rfl).trans (hF352.2 3 rfl))) _)) (ec401) (by omega) (by omega) (by omega) (by omega) (by omega) (by omega) (by omega) (by omega) (by omega) (by omega) (by omega) (by omega) (by omega) (by omega) (by omega) (by omega) (by omega) (by omega) ((ND_sf sf399)) ((CL_eq (CL_nil (lo := nd + 1) (s0 := sy) (ND_f0 sf399)) (by omega) (by omega) (by omega) (by omega) (by omega) (by omega))) (by omega) ((NdM_w sf400 (by omega) (by omega) (by omega)))
  · have _q : True := trivial
    refine jx_ar (pc' := 20) (st' := [.int (i32 (0))]) rfl rfl rfl rfl ?_
    refine jx_ld (pc' := 21) (l' := jSto1 L365 3 (.int (i32 (0)))) (st' := []) rfl rfl ?_
    obtain ⟨L413, eL413⟩ : ∃ q, q = jSto1 L365 3 (.int (i32 (0))) := ⟨_, rfl⟩
    rw [← eL413]
    have gL413_0 : jGet L413 0 = some (.ref 66) := eL413 ▸ jg_ne (by decide) gL365_0 rfl
    have gL413_1 : jGet L413 1 = some (.int (i32 (lv))) := eL413 ▸ jg_ne (by decide) gL365_1 rfl
    have gL413_2 : jGet L413 2 = some (.int (i32 (nd))) := eL413 ▸ jg_ne (by decide) gL365_2 rfl
    have gL413_3 : jGet L413 3 = some (.int (i32 (0))) := eL413 ▸ jg_eq
    refine jx_ar (pc' := 22) (st' := [.int (i32 (0))]) rfl rfl rfl rfl ?_
    refine jx_ld (pc' := 24) (l' := jSto1 L413 4 (.int (i32 (0)))) (st' := []) rfl rfl ?_
    obtain ⟨L414, eL414⟩ : ∃ q, q = jSto1 L413 4 (.int (i32 (0))) := ⟨_, rfl⟩
    rw [← eL414]
    have gL414_0 : jGet L414 0 = some (.ref 66) := eL414 ▸ jg_ne (by decide) gL413_0 rfl
    have gL414_1 : jGet L414 1 = some (.int (i32 (lv))) := eL414 ▸ jg_ne (by decide) gL413_1 rfl
    have gL414_2 : jGet L414 2 = some (.int (i32 (nd))) := eL414 ▸ jg_ne (by decide) gL413_2 rfl
    have gL414_3 : jGet L414 3 = some (.int (i32 (0))) := eL414 ▸ jg_ne (by decide) gL413_3 rfl
    have gL414_4 : jGet L414 4 = some (.int (i32 (0))) := eL414 ▸ jg_eq
    refine jx_ld (pc' := 25) (l' := L414) (st' := [.ref 66]) rfl (jl_aloadn gL414_0) ?_
    refine jx_ld (pc' := 26) (l' := L414) (st' := [.int (i32 (lv)), .ref 66]) rfl (jl_iloadn gL414_1) ?_
    have b415 : (-1 : Int) ≤ A 5 (ln2_388).toNat ∧ A 5 (ln2_388).toNat ≤ 15 := hW.2 5 _
    refine jx_vr (pc' := 29) (as := [.int (i32 (lv))]) (st := []) rfl rfl rfl rfl ⟨rfl, rfl, Nat.le_of_ble_eq_true rfl⟩ rfl rfl (c_isBelow (dd := d) (hd := by omega) (hW := hW390) (lv := lv) (ln := ln2_388) (e_ln := show G386 9 = ln2_388 from (e392)) (li := li) (e_li := show G386 3 = li from ((hF391.1 3 rfl).trans ((hF371.1 3 rfl).trans ((hF352.1 3 rfl).trans (e_li))))) (fk := fk2_389) (e_fk := show G386 16 = fk2_389 from (e393)) (ll := A 5 (ln2_388).toNat) (e_ll := show A387 5 (ln2_388).toNat = A 5 (ln2_388).toNat from (congrFun ((hF391.2 5 rfl).trans ((hF371.2 5 rfl).trans (hF352.2 5 rfl))) _))  (h_lv := ⟨(Int.le_trans (by decide : (-2147483648 : Int) ≤ -2147483648) h_lv.1), (Int.le_trans h_lv.2 (by decide : (2147483647 : Int) ≤ 2147483647))⟩)  (p_0 := by omega)) (fun o V' hq => ?_)
    obtain ⟨G416, A417, r418, fk2_419, rfl, rfl, hW420, hF421, b422, e423, q424⟩ := hq
    have hF425 := Fr_tr hF395 hF421 (Fr_sub (by decide)) (Fr_sub (by decide))
    have hP426 := Pf_f hP396 hF421 (by decide)
    have hS427 := Fx_f hS397 hF421 (by decide)
    have hV428 := Fx_f hV398 hF421 (by decide)
    have sf429 : ND A417 (nd) (32) (0) (0) (0) (0) (0) (0) := ND_ag (by omega) (Ag_fr hF421 (by decide)) sf399
    have sf430 : NdM A417 (nd) (nd + 1) (sy) := NdM_f hF421 (by decide) sf400
    have ec431 : ecn A417 (G416 31) = ec2_350 := (ecn_f (hF421.2 15 rfl) (hF421.1 31 rfl)).trans ec401
    have bfk2_419 : (0 : Int) ≤ fk2_419 ∧ fk2_419 ≤ 6 := e423 ▸ hW420.1 16
    refine .inr ⟨_, rfl, ?_⟩
    rcases q424 with ⟨rfl, a432, a433, a434, a435⟩ | ⟨rfl, a436⟩ | ⟨rfl, a437, a438, a439⟩
    · have _q : True := trivial
      exfalso
      omega
    · have _q : True := trivial
      refine jx_if_eq (pc' := 32) (tg := 130) rfl rfl rfl (by decide) (by decide) (fun h440 => ?_) (fun h440 => ?_)
      · have _q := h440
        refine jx_ld (pc' := 131) (l' := L414) (st' := [.ref 66]) rfl (jl_aloadn gL414_0) ?_
        refine jx_vr (pc' := 134) (as := []) (st := []) rfl rfl rfl rfl ⟨rfl, rfl, Nat.le_of_ble_eq_true rfl⟩ rfl rfl (c_bad (dd := d) (hd := by omega) (hW := hW420)  (fk := fk2_419) (e_fk := show G416 16 = fk2_419 from (e423))    ) (fun o V' hq => ?_)
        obtain ⟨r441, rfl, rfl, b442, q443⟩ := hq
        refine .inr ⟨_, rfl, ?_⟩
        rcases q443 with ⟨rfl, a444⟩ | ⟨rfl, a445⟩
        · have _q : True := trivial
          refine jx_if_ne (pc' := 137) (tg := 150) rfl rfl rfl (by decide) (by decide) (fun h446 => ?_) (fun h446 => ?_)
          · have _q := h446
            refine jx_ld (pc' := 151) (l' := L414) (st' := [.ref 66]) rfl (jl_aloadn gL414_0) ?_
            refine jr_get (pc' := 154) (i := 35) (v := .ref 85) rfl rfl (by decide) rfl rfl ?_
            refine jx_ld (pc' := 155) (l' := L414) (st' := [.int (i32 (nd)), .ref 85]) rfl (jl_iloadn gL414_2) ?_
            refine jx_ld (pc' := 157) (l' := L414) (st' := [.int (i32 (0)), .int (i32 (nd)), .ref 85]) rfl (jl_iload gL414_4) ?_
            refine jr_st (pc' := 158) (i := 18) (m := 7000) (z := nd) (y := 0) rfl (by decide) rfl (by decide) (by omega) (by omega) rfl ?_
            have hW448 : Wk G416 (uA A417 18 (nd).toNat (0)) := Wk_a hW420 (show (-2147483648 : Int) ≤ 0 by omega) (show 0 ≤ (2147483647 : Int) by omega)
            have hF449 := Fr_a (z := 0) (k := 18) (n := (nd).toNat) hF425 (by decide)
            obtain ⟨A447, eA447⟩ : ∃ q, q = uA A417 18 (nd).toNat (0) := ⟨_, rfl⟩
            rw [← eA447]
            rw [← eA447] at hW448 hF449
            have q450 : A447 18 (nd).toNat = 0 := by rw [eA447]; exact uA_eq
            have hP451 : Pf nd A A447 := eA447 ▸ Pf_a hP426 (z := nd) (by omega) (by omega)
            have hS452 : Fx sr (sy) A A447 := eA447 ▸ Fx_n hS427 rfl
            have hV453 : Fx [14] (vi) A A447 := eA447 ▸ Fx_n hV428 rfl
            have sf454 : ND A447 (nd) (32) (0) (0) (0) (0) (0) (0) := ND_b eA447 sf429
            have sf455 : NdM A447 (nd) (nd + 1) (sy) := NdM_st eA447 (by decide) sf430
            have ec456 : ecn A447 (G416 31) = ec2_350 := (ecn_e ((congrFun eA447 15).trans (uA_ne (by decide)))).trans ec431
            refine jx_ld (pc' := 159) (l' := L414) (st' := [.int (i32 (nd))]) rfl (jl_iloadn gL414_2) ?_
            refine jx_rt (v := some (.int (i32 (nd)))) rfl rfl rfl rfl rfl rfl ?_
            exact ⟨_, _, _, ln2_388, at2_368, fk2_419, nd2_349, sy, na, vi, A 3 (ln2_388).toNat, ec2_350, rfl, rfl, hW448, hF449, hP451, hS452, hV453, by omega, ((hF421.1 9 rfl).trans (e392)), ((hF421.1 10 rfl).trans ((hF391.1 10 rfl).trans (e372))), (e423), ((hF421.1 31 rfl).trans ((hF391.1 31 rfl).trans ((hF371.1 31 rfl).trans (e354)))), ((hF421.1 19 rfl).trans ((hF391.1 19 rfl).trans ((hF371.1 19 rfl).trans ((hF352.1 19 rfl).trans (e_sy))))), ((hF421.1 28 rfl).trans ((hF391.1 28 rfl).trans ((hF371.1 28 rfl).trans ((hF352.1 28 rfl).trans (e_na))))), ((hF421.1 29 rfl).trans ((hF391.1 29 rfl).trans ((hF371.1 29 rfl).trans ((hF352.1 29 rfl).trans (e_vi))))), (congrFun (((congrFun eA447 3).trans (uA_ne (by decide))).trans ((hF421.2 3 rfl).trans ((hF391.2 3 rfl).trans ((hF371.2 3 rfl).trans (hF352.2 3 rfl))))) _), ec456, by omega, by omega, by omega, by omega, by omega, by omega, by omega, by omega, by omega, by omega, by first | exact Or.inl (⟨by omega, by omega⟩)⟩
          · have _q := h446
            exact absurd h446 (by omega)
        · have _q : True := trivial
          exfalso
          omega
      · have _q := h440
        exact absurd h440 (by omega)
    · have _q : True := trivial
      exfalso
      omega
set_option maxRecDepth 20000 in
set_option maxHeartbeats 4000000 in
theorem c_readStatement_w {X : jX} {k : Nat} (hP : RPw X k) {dd : Nat} {Vs : Nat → Prop} {sb pb : Int} (hvb : VB Vs sb) {c0 c1 : jC} {G : Nat → Int} {A : Nat → Nat → Int} {T : jH} {lv : Int} {ln li at0 fk nd sy na vi le op0 tk0 ec : Int} (hd : 8 * k + 83 ≤ dd) (hW : Wk G A) (e_ln : G 9 = ln) (e_li : G 3 = li) (e_at0 : G 10 = at0) (e_fk : G 16 = fk) (e_nd : G 31 = nd) (e_sy : G 19 = sy) (e_na : G 28 = na) (e_vi : G 29 = vi) (e_le : A 4 (ln).toNat = le) (e_op0 : G 15 = op0) (e_tk0 : G 11 = tk0) (e_ec : ecn A (G 31) = ec) (i_LT : LT G A) (i_SV : SV Vs sb G A) (i_PQ : PQ Vs sb pb G A) (h_lv : (-2147483648 : Int) ≤ lv ∧ lv ≤ 2147483647) (p_0 : 0 ≤ lv ∧ lv ≤ 15) (p_1 : 18 - lv ≤ ((k + 1 : Nat) : Int)) (p_2 : fk = 0) (p_3 : ln < li) (p_4 : at0 ≤ le) (p_5 : op0 = 0) (p_6 : nd ≤ 2 * at0 - tz tk0 + 30) (p_7 : sy ≤ na + 2) (p_8 : vi ≤ sy) (p_9 : sb = sy) : wk X dd 295 [.ref 66, .int (i32 lv)] (rV c0 c1 G A T) (fun o V' => ∃ (G' : Nat → Int) (A' : Nat → Nat → Int) (r : Int) (ln2 : Int) (at2 : Int) (fk2 : Int) (nd2 : Int) (sy2 : Int) (na2 : Int) (vi2 : Int) (lf2 : Int) (ec2 : Int), V' = rV c0 c1 G' A' T ∧ o = .inl (some (.int (i32 r))) ∧ Wk G' A' ∧ Fr [9, 10, 11, 12, 13, 14, 15, 16, 17, 18, 19, 28, 29, 31] [6, 7, 8, 9, 10, 11, 12, 14, 15, 16, 17, 18, 19, 20, 21, 22, 23, 24, 28] G A G' A' ∧ Pf nd A A' ∧ Fx sr (sy) A A' ∧ Fx [14] (vi) A A' ∧ ((-2147483648 : Int) ≤ r ∧ r ≤ 2147483647) ∧ G' 9 = ln2 ∧ G' 10 = at2 ∧ G' 16 = fk2 ∧ G' 31 = nd2 ∧ G' 19 = sy2 ∧ G' 28 = na2 ∧ G' 29 = vi2 ∧ A' 3 (ln2).toNat = lf2 ∧ ecn A' (G' 31) = ec2 ∧ (at0 ≤ at2) ∧ (nd ≤ nd2) ∧ (sy ≤ sy2) ∧ (sy2 ≤ na2 + 2) ∧ (vi ≤ vi2) ∧ (vi2 ≤ vi + 1) ∧ (0 ≤ r) ∧ (r ≤ 6999) ∧ (ln ≤ ln2) ∧ (ln2 ≤ li) ∧ (((1 ≤ fk2) ∧ (nd2 - nd ≤ 2 * at2 - (2 * at0 - tz tk0) + 14)) ∨ ((fk2 = 0) ∧ (vi2 = vi) ∧ (ln < ln2) ∧ (nd2 - nd ≤ 2 * at2 - (2 * at0 - tz tk0)) ∧ (at2 < lf2 ∨ li ≤ ln2) ∧ (nd ≤ r) ∧ (r < nd2) ∧ (wSt A' (sy2) pb (wP A' (sy2) pb (k)) (Vs) (r) (nd) (nd2) (sy) (sy2)) ∧ (NX A' (r)) ∧ (nd2 - nd + 5 * (ec2 - ec) ≤ 2 * at2 - (2 * at0 - tz tk0)) ∧ (NdO A' (nd) (nd2) (sy) (r))))) := by
  obtain ⟨d, rfl⟩ : ∃ d, dd = d + 1 := ⟨dd - 1, by omega⟩
  refine wk_of (e := jm295) rfl (Nat.le_of_ble_eq_true rfl) ?_
  show wj X d jm295 (0, [(0, .ref 66), (1, .int (i32 (lv)))], [], rV c0 c1 G A T) _
  have hF0 : Fr [9, 10, 11, 12, 13, 14, 15, 16, 17, 18, 19, 28, 29, 31] [6, 7, 8, 9, 10, 11, 12, 14, 15, 16, 17, 18, 19, 20, 21, 22, 23, 24, 28] G A G A := Fr_rf
  have hP0 : Pf nd A A := Pf_rf
  have hS0 : Fx sr (sy) A A := Fx_rf
  have hV0 : Fx [14] (vi) A A := Fx_rf
  have b_ln : (0 : Int) ≤ ln ∧ ln ≤ 3000 := e_ln ▸ hW.1 9
  have b_li : (0 : Int) ≤ li ∧ li ≤ 3000 := e_li ▸ hW.1 3
  have b_at0 : (0 : Int) ≤ at0 ∧ at0 ≤ 3002 := e_at0 ▸ hW.1 10
  have b_fk : (0 : Int) ≤ fk ∧ fk ≤ 6 := e_fk ▸ hW.1 16
  have b_nd : (0 : Int) ≤ nd ∧ nd ≤ 6999 := e_nd ▸ hW.1 31
  have b_sy : (0 : Int) ≤ sy ∧ sy ≤ 202 := e_sy ▸ hW.1 19
  have b_na : (0 : Int) ≤ na ∧ na ≤ 200 := e_na ▸ hW.1 28
  have b_vi : (0 : Int) ≤ vi ∧ vi ≤ 202 := e_vi ▸ hW.1 29
  have b_le : (0 : Int) ≤ le ∧ le ≤ 3000 := e_le ▸ hW.2 4 _
  have b_op0 : (-2147483648 : Int) ≤ op0 ∧ op0 ≤ 2147483647 := e_op0 ▸ hW.1 15
  have z_tk0 := tz_f tk0
  have b_tk0 : (0 : Int) ≤ tk0 ∧ tk0 ≤ 5 := e_tk0 ▸ hW.1 11
  refine jx_ar (pc' := 1) (st' := [.int (i32 (0))]) rfl rfl rfl rfl ?_
  refine jx_ld (pc' := 2) (l' := jSto1 [(0, .ref 66), (1, .int (i32 (lv)))] 2 (.int (i32 (0)))) (st' := []) rfl rfl ?_
  obtain ⟨L1, eL1⟩ : ∃ q, q = jSto1 [(0, .ref 66), (1, .int (i32 (lv)))] 2 (.int (i32 (0))) := ⟨_, rfl⟩
  rw [← eL1]
  have gL1_0 : jGet L1 0 = some (.ref 66) := eL1 ▸ jg_ne (by decide) (rfl : jGet [(0, .ref 66), (1, .int (i32 (lv)))] 0 = some (.ref 66)) rfl
  have gL1_1 : jGet L1 1 = some (.int (i32 (lv))) := eL1 ▸ jg_ne (by decide) (rfl : jGet [(0, .ref 66), (1, .int (i32 (lv)))] 1 = some (.int (i32 (lv)))) rfl
  have gL1_2 : jGet L1 2 = some (.int (i32 (0))) := eL1 ▸ jg_eq
  refine jx_ld (pc' := 3) (l' := L1) (st' := [.ref 66]) rfl (jl_aloadn gL1_0) ?_
  have z2 := tz_f (tk0)
  refine jr_get (pc' := 6) (i := 11) (v := .int (i32 (tk0))) rfl rfl (by decide) (rFv_eq (by decide) (show G 11 = tk0 from (e_tk0))) rfl ?_
  refine jx_ar (pc' := 7) (st' := [.int (i32 (1)), .int (i32 (tk0))]) rfl rfl rfl rfl ?_
  refine jx_icmp_ne (pc' := 10) (tg := 15) rfl rfl rfl (Int.le_trans (by decide : (-2147483648 : Int) ≤ 0) b_tk0.1) (Int.le_trans b_tk0.2 (by decide : (5 : Int) ≤ 2147483647)) (by decide) (by decide) (fun h3 => ?_) (fun h3 => ?_)
  · have _q := h3
    refine jx_ld (pc' := 16) (l' := L1) (st' := [.ref 66]) rfl (jl_aloadn gL1_0) ?_
    have z4 := tz_f (tk0)
    refine jr_get (pc' := 19) (i := 11) (v := .int (i32 (tk0))) rfl rfl (by decide) (rFv_eq (by decide) (show G 11 = tk0 from (e_tk0))) rfl ?_
    refine jx_ar (pc' := 20) (st' := [.int (i32 (2)), .int (i32 (tk0))]) rfl rfl rfl rfl ?_
    refine jx_icmp_eq (pc' := 23) (tg := 34) rfl rfl rfl (Int.le_trans (by decide : (-2147483648 : Int) ≤ 0) b_tk0.1) (Int.le_trans b_tk0.2 (by decide : (5 : Int) ≤ 2147483647)) (by decide) (by decide) (fun h5 => ?_) (fun h5 => ?_)
    · have _q := h5
      refine jx_ld (pc' := 35) (l' := L1) (st' := [.ref 66]) rfl (jl_aloadn gL1_0) ?_
      have b6 : (-2147483648 : Int) ≤ G 13 ∧ G 13 ≤ 2147483647 := hW.1 13
      refine jr_get (pc' := 38) (i := 13) (v := .int (i32 (G 13))) rfl rfl (by decide) rfl rfl ?_
      refine jx_ld (pc' := 39) (l' := jSto1 L1 3 (.int (i32 (G 13)))) (st' := []) rfl rfl ?_
      obtain ⟨L7, eL7⟩ : ∃ q, q = jSto1 L1 3 (.int (i32 (G 13))) := ⟨_, rfl⟩
      rw [← eL7]
      have gL7_0 : jGet L7 0 = some (.ref 66) := eL7 ▸ jg_ne (by decide) gL1_0 rfl
      have gL7_1 : jGet L7 1 = some (.int (i32 (lv))) := eL7 ▸ jg_ne (by decide) gL1_1 rfl
      have gL7_2 : jGet L7 2 = some (.int (i32 (0))) := eL7 ▸ jg_ne (by decide) gL1_2 rfl
      have gL7_3 : jGet L7 3 = some (.int (i32 (G 13))) := eL7 ▸ jg_eq
      refine jx_ld (pc' := 40) (l' := L7) (st' := [.int (i32 (G 13))]) rfl (jl_iloadn gL7_3) ?_
      rcases (by omega : G 13 = 1 ∨ G 13 = 2 ∨ G 13 = 3 ∨ G 13 = 4 ∨ G 13 = 5 ∨ G 13 = 6 ∨ G 13 = 7 ∨ G 13 = 8 ∨ (G 13 < 1 ∨ 8 < G 13)) with h8 | h8 | h8 | h8 | h8 | h8 | h8 | h8 | h8
      · refine jx_swe (z := 1) (tg := 120) h8 rfl rfl rfl rfl ?_
        refine jx_ld (pc' := 121) (l' := L7) (st' := [.ref 66]) rfl (jl_aloadn gL7_0) ?_
        refine jx_ld (pc' := 122) (l' := L7) (st' := [.int (i32 (lv)), .ref 66]) rfl (jl_iloadn gL7_1) ?_
        refine jx_vr (pc' := 125) (as := [.int (i32 (lv))]) (st := []) rfl rfl rfl rfl ⟨rfl, rfl, Nat.le_of_ble_eq_true rfl⟩ rfl rfl (c_readSeq_w (dd := d) (hP := hP) (hd := by omega) (hW := hW) (lv := lv) (ln := ln) (e_ln := show G 9 = ln from (e_ln)) (li := li) (e_li := show G 3 = li from (e_li)) (at0 := at0) (e_at0 := show G 10 = at0 from (e_at0)) (fk := fk) (e_fk := show G 16 = fk from (e_fk)) (nd := nd) (e_nd := show G 31 = nd from (e_nd)) (sy := sy) (e_sy := show G 19 = sy from (e_sy)) (na := na) (e_na := show G 28 = na from (e_na)) (vi := vi) (e_vi := show G 29 = vi from (e_vi)) (le := le) (e_le := show A 4 (ln).toNat = le from (e_le)) (op0 := op0) (e_op0 := show G 15 = op0 from (e_op0)) (tk0 := tk0) (e_tk0 := show G 11 = tk0 from (e_tk0)) (ec := ec) (e_ec := show ecn A (G 31) = ec from e_ec) (i_LT := (LT_ext (rfl) (rfl) (rfl) i_LT)) (i_SV := (SV_fx i_SV e_vi (show G 29 = vi from (e_vi)) (by omega) hV0)) (i_PQ := (PQ_fx i_PQ hS0 (by omega) (hF0.2 29 rfl) (hF0.2 30 rfl))) (hvb := hvb) (h_lv := ⟨(Int.le_trans (by decide : (-2147483648 : Int) ≤ -2147483648) h_lv.1), (Int.le_trans h_lv.2 (by decide : (2147483647 : Int) ≤ 2147483647))⟩)  (p_0 := by omega) (p_1 := by omega) (p_2 := by omega) (p_3 := by omega) (p_4 := by omega) (p_5 := by omega) (p_6 := by omega) (p_7 := by omega) (p_8 := by omega) (p_9 := by omega) (p_10 := by omega)) (fun o V' hq => ?_)
        obtain ⟨G9, A10, r11, ln2_12, at2_13, fk2_14, nd2_15, sy2_16, na2_17, vi2_18, lf2_19, ec2_20, rfl, rfl, hW21, hF22, hQ23, hQ24, hQ25, b26, e27, e28, e29, e30, e31, e32, e33, e34, e35, p36, p37, p38, p39, p40, p41, p42, p43, p44, p45, q46⟩ := hq
        have hF47 := Fr_tr hF0 hF22 (Fr_sub (by decide)) (Fr_sub (by decide))
        have hP48 := Pf_tr hP0 hQ23 (by omega)
        have hS49 := Fx_tr hS0 hQ24 (by omega)
        have hV50 := Fx_tr hV0 hQ25 (by omega)
        have bln2_12 : (0 : Int) ≤ ln2_12 ∧ ln2_12 ≤ 3000 := e27 ▸ hW21.1 9
        have bat2_13 : (0 : Int) ≤ at2_13 ∧ at2_13 ≤ 3002 := e28 ▸ hW21.1 10
        have bfk2_14 : (0 : Int) ≤ fk2_14 ∧ fk2_14 ≤ 6 := e29 ▸ hW21.1 16
        have bnd2_15 : (0 : Int) ≤ nd2_15 ∧ nd2_15 ≤ 6999 := e30 ▸ hW21.1 31
        have bsy2_16 : (0 : Int) ≤ sy2_16 ∧ sy2_16 ≤ 202 := e31 ▸ hW21.1 19
        have bna2_17 : (0 : Int) ≤ na2_17 ∧ na2_17 ≤ 200 := e32 ▸ hW21.1 28
        have bvi2_18 : (0 : Int) ≤ vi2_18 ∧ vi2_18 ≤ 202 := e33 ▸ hW21.1 29
        have blf2_19 : (0 : Int) ≤ lf2_19 ∧ lf2_19 ≤ 3000 := e34 ▸ hW21.2 3 _
        refine .inr ⟨_, rfl, ?_⟩
        rcases q46 with ⟨a51, a52⟩ | ⟨a53, a54, a55, a56, a57, a58, a59, a60, a61, a62, a63⟩
        · have _q : True := trivial
          refine jx_rt (v := some (.int (i32 (r11)))) rfl rfl rfl rfl rfl rfl ?_
          exact ⟨_, _, _, ln2_12, at2_13, fk2_14, nd2_15, sy2_16, na2_17, vi2_18, lf2_19, ec2_20, rfl, rfl, hW21, hF47, hP48, hS49, hV50, by omega, (e27), (e28), (e29), (e30), (e31), (e32), (e33), (e34), e35, by omega, by omega, by omega, by omega, by omega, by omega, by omega, by omega, by omega, by omega, by first | exact Or.inl (⟨by omega, by omega⟩)⟩
        · have _q : True := trivial
          refine jx_rt (v := some (.int (i32 (r11)))) rfl rfl rfl rfl rfl rfl ?_
          exact ⟨_, _, _, ln2_12, at2_13, fk2_14, nd2_15, sy2_16, na2_17, vi2_18, lf2_19, ec2_20, rfl, rfl, hW21, hF47, hP48, hS49, hV50, by omega, (e27), (e28), (e29), (e30), (e31), (e32), (e33), (e34), e35, by omega, by omega, by omega, by omega, by omega, by omega, by omega, by omega, by omega, by omega, by first | exact Or.inr ((⟨by omega, by omega, by omega, by omega, by omega, by omega, by omega, a60, a61, by omega, (NdO_w (NdO_m (r := r11) a63) (by omega) (by omega) (by omega))⟩))⟩
      · refine jx_swe (z := 2) (tg := 186) h8 rfl rfl rfl rfl ?_
        refine jx_ld (pc' := 187) (l' := L7) (st' := [.ref 66]) rfl (jl_aloadn gL7_0) ?_
        refine jx_ld (pc' := 188) (l' := L7) (st' := [.int (i32 (lv)), .ref 66]) rfl (jl_iloadn gL7_1) ?_
        refine jx_vr (pc' := 191) (as := [.int (i32 (lv))]) (st := []) rfl rfl rfl rfl ⟨rfl, rfl, Nat.le_of_ble_eq_true rfl⟩ rfl rfl (c_readPar_w (dd := d) (hP := hP) (hd := by omega) (hW := hW) (lv := lv) (ln := ln) (e_ln := show G 9 = ln from (e_ln)) (li := li) (e_li := show G 3 = li from (e_li)) (at0 := at0) (e_at0 := show G 10 = at0 from (e_at0)) (fk := fk) (e_fk := show G 16 = fk from (e_fk)) (nd := nd) (e_nd := show G 31 = nd from (e_nd)) (sy := sy) (e_sy := show G 19 = sy from (e_sy)) (na := na) (e_na := show G 28 = na from (e_na)) (vi := vi) (e_vi := show G 29 = vi from (e_vi)) (le := le) (e_le := show A 4 (ln).toNat = le from (e_le)) (op0 := op0) (e_op0 := show G 15 = op0 from (e_op0)) (tk0 := tk0) (e_tk0 := show G 11 = tk0 from (e_tk0)) (ec := ec) (e_ec := show ecn A (G 31) = ec from e_ec) (i_LT := (LT_ext (rfl) (rfl) (rfl) i_LT)) (i_SV := (SV_fx i_SV e_vi (show G 29 = vi from (e_vi)) (by omega) hV0)) (i_PQ := (PQ_fx i_PQ hS0 (by omega) (hF0.2 29 rfl) (hF0.2 30 rfl))) (hvb := hvb) (h_lv := ⟨(Int.le_trans (by decide : (-2147483648 : Int) ≤ -2147483648) h_lv.1), (Int.le_trans h_lv.2 (by decide : (2147483647 : Int) ≤ 2147483647))⟩)  (p_0 := by omega) (p_1 := by omega) (p_2 := by omega) (p_3 := by omega) (p_4 := by omega) (p_5 := by omega) (p_6 := by omega) (p_7 := by omega) (p_8 := by omega) (p_9 := by omega) (p_10 := by omega)) (fun o V' hq => ?_)
        obtain ⟨G64, A65, r66, ln2_67, at2_68, fk2_69, nd2_70, sy2_71, na2_72, vi2_73, lf2_74, ec2_75, rfl, rfl, hW76, hF77, hQ78, hQ79, hQ80, b81, e82, e83, e84, e85, e86, e87, e88, e89, e90, p91, p92, p93, p94, p95, p96, p97, p98, p99, p100, q101⟩ := hq
        have hF102 := Fr_tr hF0 hF77 (Fr_sub (by decide)) (Fr_sub (by decide))
        have hP103 := Pf_tr hP0 hQ78 (by omega)
        have hS104 := Fx_tr hS0 hQ79 (by omega)
        have hV105 := Fx_tr hV0 hQ80 (by omega)
        have bln2_67 : (0 : Int) ≤ ln2_67 ∧ ln2_67 ≤ 3000 := e82 ▸ hW76.1 9
        have bat2_68 : (0 : Int) ≤ at2_68 ∧ at2_68 ≤ 3002 := e83 ▸ hW76.1 10
        have bfk2_69 : (0 : Int) ≤ fk2_69 ∧ fk2_69 ≤ 6 := e84 ▸ hW76.1 16
        have bnd2_70 : (0 : Int) ≤ nd2_70 ∧ nd2_70 ≤ 6999 := e85 ▸ hW76.1 31
        have bsy2_71 : (0 : Int) ≤ sy2_71 ∧ sy2_71 ≤ 202 := e86 ▸ hW76.1 19
        have bna2_72 : (0 : Int) ≤ na2_72 ∧ na2_72 ≤ 200 := e87 ▸ hW76.1 28
        have bvi2_73 : (0 : Int) ≤ vi2_73 ∧ vi2_73 ≤ 202 := e88 ▸ hW76.1 29
        have blf2_74 : (0 : Int) ≤ lf2_74 ∧ lf2_74 ≤ 3000 := e89 ▸ hW76.2 3 _
        refine .inr ⟨_, rfl, ?_⟩
        rcases q101 with ⟨a106, a107⟩ | ⟨a108, a109, a110, a111, a112, a113, a114, a115, a116, a117, a118⟩
        · have _q : True := trivial
          refine jx_rt (v := some (.int (i32 (r66)))) rfl rfl rfl rfl rfl rfl ?_
          exact ⟨_, _, _, ln2_67, at2_68, fk2_69, nd2_70, sy2_71, na2_72, vi2_73, lf2_74, ec2_75, rfl, rfl, hW76, hF102, hP103, hS104, hV105, by omega, (e82), (e83), (e84), (e85), (e86), (e87), (e88), (e89), e90, by omega, by omega, by omega, by omega, by omega, by omega, by omega, by omega, by omega, by omega, by first | exact Or.inl (⟨by omega, by omega⟩)⟩
        · have _q : True := trivial
          refine jx_rt (v := some (.int (i32 (r66)))) rfl rfl rfl rfl rfl rfl ?_
          exact ⟨_, _, _, ln2_67, at2_68, fk2_69, nd2_70, sy2_71, na2_72, vi2_73, lf2_74, ec2_75, rfl, rfl, hW76, hF102, hP103, hS104, hV105, by omega, (e82), (e83), (e84), (e85), (e86), (e87), (e88), (e89), e90, by omega, by omega, by omega, by omega, by omega, by omega, by omega, by omega, by omega, by omega, by first | exact Or.inr ((⟨by omega, by omega, by omega, by omega, by omega, by omega, by omega, a115, a116, by omega, a118⟩))⟩
      · refine jx_swe (z := 3) (tg := 126) h8 rfl rfl rfl rfl ?_
        refine jx_ld (pc' := 127) (l' := L7) (st' := [.ref 66]) rfl (jl_aloadn gL7_0) ?_
        refine jx_vr (pc' := 130) (as := []) (st := []) rfl rfl rfl rfl ⟨rfl, rfl, Nat.le_of_ble_eq_true rfl⟩ rfl rfl (c_next (dd := d) (hd := by omega) (hW := hW)  (ln := ln) (e_ln := show G 9 = ln from (e_ln)) (le := le) (e_le := show A 4 (ln).toNat = le from (e_le)) (at0 := at0) (e_at0 := show G 10 = at0 from (e_at0))    (p_0 := by omega)) (fun o V' hq => ?_)
        obtain ⟨G119, A120, at2_121, tk2_122, rfl, rfl, hW123, hF124, e125, e126, p127, p128, p129, -⟩ := hq
        have hF131 := Fr_tr hF0 hF124 (Fr_sub (by decide)) (Fr_sub (by decide))
        have hP132 := Pf_f hP0 hF124 (by decide)
        have hS133 := Fx_f hS0 hF124 (by decide)
        have hV134 := Fx_f hV0 hF124 (by decide)
        have ec135 : ecn A120 (G119 31) = ec := (ecn_f (hF124.2 15 rfl) (hF124.1 31 rfl)).trans e_ec
        have bat2_121 : (0 : Int) ≤ at2_121 ∧ at2_121 ≤ 3002 := e125 ▸ hW123.1 10
        have ztk2_122 := tz_b tk2_122
        have btk2_122 : (0 : Int) ≤ tk2_122 ∧ tk2_122 ≤ 5 := e126 ▸ hW123.1 11
        refine .inl ⟨rfl, ?_⟩
        have pz136 : at0 + tz tk2_122 ≤ at2_121 := by omega
        refine jx_ld (pc' := 131) (l' := L7) (st' := [.ref 66]) rfl (jl_aloadn gL7_0) ?_
        refine jx_vr (pc' := 134) (as := []) (st := []) rfl rfl rfl rfl ⟨rfl, rfl, Nat.le_of_ble_eq_true rfl⟩ rfl rfl (c_bad (dd := d) (hd := by omega) (hW := hW123)  (fk := fk) (e_fk := show G119 16 = fk from ((hF124.1 16 rfl).trans (e_fk)))    ) (fun o V' hq => ?_)
        obtain ⟨r137, rfl, rfl, b138, q139⟩ := hq
        refine .inr ⟨_, rfl, ?_⟩
        rcases q139 with ⟨rfl, a140⟩ | ⟨rfl, a141⟩
        · have _q : True := trivial
          exfalso
          omega
        · have _q : True := trivial
          refine jx_if_ne (pc' := 137) (tg := 156) rfl rfl rfl (by decide) (by decide) (fun h142 => ?_) (fun h142 => ?_)
          · have _q := h142
            exact absurd h142 (by omega)
          · have _q := h142
            refine jx_ld (pc' := 138) (l' := L7) (st' := [.ref 66]) rfl (jl_aloadn gL7_0) ?_
            refine jx_ar (pc' := 139) (st' := [.int (i32 (2)), .ref 66]) rfl rfl rfl rfl ?_
            have b143 : (-2147483648 : Int) ≤ G119 13 ∧ G119 13 ≤ 2147483647 := hW123.1 13
            refine jx_vr (pc' := 142) (as := [.int (i32 (2))]) (st := []) rfl rfl rfl rfl ⟨rfl, rfl, Nat.le_of_ble_eq_true rfl⟩ rfl rfl (c_isKey (dd := d) (hd := by omega) (hW := hW123) (k := 2) (tk := tk2_122) (e_tk := show G119 11 = tk2_122 from (e126)) (tn := G119 13) (e_tn := show G119 13 = G119 13 from rfl)  (h_k := ⟨(by decide), (by decide)⟩)  ) (fun o V' hq => ?_)
            obtain ⟨r144, rfl, rfl, b145, q146⟩ := hq
            refine .inr ⟨_, rfl, ?_⟩
            rcases q146 with ⟨rfl, a147, a148, a149⟩ | rfl
            · have _q : True := trivial
              refine jx_if_ne (pc' := 145) (tg := 156) rfl rfl rfl (by decide) (by decide) (fun h150 => ?_) (fun h150 => ?_)
              · have _q := h150
                refine jx_ld (pc' := 157) (l' := L7) (st' := [.ref 66]) rfl (jl_aloadn gL7_0) ?_
                refine jx_ar (pc' := 159) (st' := [.int (i32 (28)), .ref 66]) rfl rfl rfl rfl ?_
                refine jx_ar (pc' := 160) (st' := [.int (i32 (1)), .int (i32 (28)), .ref 66]) rfl rfl rfl rfl ?_
                refine jx_ar (pc' := 161) (st' := [.int (i32 (0)), .int (i32 (1)), .int (i32 (28)), .ref 66]) rfl rfl rfl rfl ?_
                refine jx_ar (pc' := 162) (st' := [.int (i32 (0)), .int (i32 (0)), .int (i32 (1)), .int (i32 (28)), .ref 66]) rfl rfl rfl rfl ?_
                refine jx_ar (pc' := 163) (st' := [.int (i32 (0)), .int (i32 (0)), .int (i32 (0)), .int (i32 (1)), .int (i32 (28)), .ref 66]) rfl rfl rfl rfl ?_
                refine jx_vr (pc' := 166) (as := [.int (i32 (28)), .int (i32 (1)), .int (i32 (0)), .int (i32 (0)), .int (i32 (0))]) (st := []) rfl rfl rfl rfl ⟨rfl, rfl, Nat.le_of_ble_eq_true rfl⟩ rfl rfl (c_node_p (dd := d) (hd := by omega) (hW := hW123) (kind := 28) (a := 1) (b := 0) (c := 0) (e := 0) (nd := nd) (e_nd := show G119 31 = nd from ((hF124.1 31 rfl).trans (e_nd))) (ec := ec) (e_ec := show ecn A120 (G119 31) = ec from ec135) (sy := sy) (e_sy := show G119 19 = sy from ((hF124.1 19 rfl).trans (e_sy))) (ln := ln) (e_ln := show G119 9 = ln from ((hF124.1 9 rfl).trans (e_ln))) (li := li) (e_li := show G119 3 = li from ((hF124.1 3 rfl).trans (e_li)))  (h_kind := ⟨(by decide), (by decide)⟩) (h_a := ⟨(by decide), (by decide)⟩) (h_b := ⟨(by decide), (by decide)⟩) (h_c := ⟨(by decide), (by decide)⟩) (h_e := ⟨(by decide), (by decide)⟩)  (p_0 := by omega) (p_1 := by omega) (p_2 := by omega) (p_3 := by omega)) (fun o V' hq => ?_)
                obtain ⟨G151, A152, nd2_153, ec2_154, rfl, rfl, hW155, hF156, hQ157, e158, e159, p160, p161, p162, p163, -⟩ := hq
                have hF165 := Fr_tr hF131 hF156 (Fr_sub (by decide)) (Fr_sub (by decide))
                have hP166 := Pf_tr hP132 hQ157 (by omega)
                have hS167 := Fx_f hS133 hF156 (by decide)
                have hV168 := Fx_f hV134 hF156 (by decide)
                have bnd2_153 : (0 : Int) ≤ nd2_153 ∧ nd2_153 ≤ 6999 := e158 ▸ hW155.1 31
                refine .inr ⟨_, rfl, ?_⟩
                refine jx_ld (pc' := 167) (l' := jSto1 L7 2 (.int (i32 (nd)))) (st' := []) rfl rfl ?_
                obtain ⟨L169, eL169⟩ : ∃ q, q = jSto1 L7 2 (.int (i32 (nd))) := ⟨_, rfl⟩
                rw [← eL169]
                have gL169_0 : jGet L169 0 = some (.ref 66) := eL169 ▸ jg_ne (by decide) gL7_0 rfl
                have gL169_1 : jGet L169 1 = some (.int (i32 (lv))) := eL169 ▸ jg_ne (by decide) gL7_1 rfl
                have gL169_3 : jGet L169 3 = some (.int (i32 (G 13))) := eL169 ▸ jg_ne (by decide) gL7_3 rfl
                have gL169_2 : jGet L169 2 = some (.int (i32 (nd))) := eL169 ▸ jg_eq
                refine jx_ld (pc' := 168) (l' := L169) (st' := [.ref 66]) rfl (jl_aloadn gL169_0) ?_
                refine jx_ar (pc' := 169) (st' := [.int (i32 (1)), .ref 66]) rfl rfl rfl rfl ?_
                refine jx_vr (pc' := 172) (as := [.int (i32 (1))]) (st := []) rfl rfl rfl rfl ⟨rfl, rfl, Nat.le_of_ble_eq_true rfl⟩ rfl rfl (c_need (dd := d) (hd := by omega) (hW := hW155) (g := 1) (ln := ln) (e_ln := show G151 9 = ln from ((hF156.1 9 rfl).trans ((hF124.1 9 rfl).trans (e_ln)))) (le := le) (e_le := show A152 4 (ln).toNat = le from (congrFun ((hF156.2 4 rfl).trans (hF124.2 4 rfl)) _).trans (e_le)) (at0 := at2_121) (e_at0 := show G151 10 = at2_121 from ((hF156.1 10 rfl).trans (e125))) (fk := fk) (e_fk := show G151 16 = fk from ((hF156.1 16 rfl).trans ((hF124.1 16 rfl).trans (e_fk)))) (tk0 := tk2_122) (e_tk0 := show G151 11 = tk2_122 from ((hF156.1 11 rfl).trans (e126)))  (h_g := ⟨(by decide), (by decide)⟩)  (p_0 := by omega)) (fun o V' hq => ?_)
                obtain ⟨G170, A171, at2_172, tk2_173, fk2_174, rfl, rfl, hW175, hF176, e177, e178, e179, p180, p181, q182⟩ := hq
                have hF183 := Fr_tr hF165 hF176 (Fr_sub (by decide)) (Fr_sub (by decide))
                have hP184 := Pf_f hP166 hF176 (by decide)
                have hS185 := Fx_f hS167 hF176 (by decide)
                have hV186 := Fx_f hV168 hF176 (by decide)
                have sf187 : ND A171 (nd) (28) (1) (0) (0) (0) (0) (0) := ND_ag (by omega) (Ag_fr hF176 (by decide)) p162
                have sf188 : NdO A171 (nd) (nd + 1) (sy) (nd) := NdO_f hF176 (by decide) p163
                have ec189 : ecn A171 (G170 31) = ec2_154 := (ecn_f (hF176.2 15 rfl) (hF176.1 31 rfl)).trans e159
                have bat2_172 : (0 : Int) ≤ at2_172 ∧ at2_172 ≤ 3002 := e177 ▸ hW175.1 10
                have ztk2_173 := tz_b tk2_173
                have btk2_173 : (0 : Int) ≤ tk2_173 ∧ tk2_173 ≤ 5 := e178 ▸ hW175.1 11
                have bfk2_174 : (0 : Int) ≤ fk2_174 ∧ fk2_174 ≤ 6 := e179 ▸ hW175.1 16
                refine .inl ⟨rfl, ?_⟩
                rcases q182 with ⟨a190, a191, a192, a193⟩ | ⟨a194, a195, a196, a197⟩
                · have _q : True := trivial
                  refine jx_ld (pc' := 173) (l' := L169) (st' := [.ref 66]) rfl (jl_aloadn gL169_0) ?_
                  refine jx_vr (pc' := 176) (as := []) (st := []) rfl rfl rfl rfl ⟨rfl, rfl, Nat.le_of_ble_eq_true rfl⟩ rfl rfl (c_endLine (dd := d) (hd := by omega) (hW := hW175)  (ln := ln) (e_ln := show G170 9 = ln from ((hF176.1 9 rfl).trans ((hF156.1 9 rfl).trans ((hF124.1 9 rfl).trans (e_ln))))) (li := li) (e_li := show G170 3 = li from ((hF176.1 3 rfl).trans ((hF156.1 3 rfl).trans ((hF124.1 3 rfl).trans (e_li))))) (fk := fk2_174) (e_fk := show G170 16 = fk2_174 from (e179)) (tk0 := tk2_173) (e_tk0 := show G170 11 = tk2_173 from (e178))    (p_0 := by omega)) (fun o V' hq => ?_)
                  obtain ⟨G198, A199, ln2_200, fk2_201, rfl, rfl, hW202, hF203, e204, e205, q206⟩ := hq
                  have hF207 := Fr_tr hF183 hF203 (Fr_sub (by decide)) (Fr_sub (by decide))
                  have hP208 := Pf_f hP184 hF203 (by decide)
                  have hS209 := Fx_f hS185 hF203 (by decide)
                  have hV210 := Fx_f hV186 hF203 (by decide)
                  have sf211 : ND A199 (nd) (28) (1) (0) (0) (0) (0) (0) := ND_ag (by omega) (Ag_fr hF203 (by decide)) sf187
                  have sf212 : NdO A199 (nd) (nd + 1) (sy) (nd) := NdO_f hF203 (by decide) sf188
                  have ec213 : ecn A199 (G198 31) = ec2_154 := (ecn_f (hF203.2 15 rfl) (hF203.1 31 rfl)).trans ec189
                  have bln2_200 : (0 : Int) ≤ ln2_200 ∧ ln2_200 ≤ 3000 := e204 ▸ hW202.1 9
                  have bfk2_201 : (0 : Int) ≤ fk2_201 ∧ fk2_201 ≤ 6 := e205 ▸ hW202.1 16
                  refine .inl ⟨rfl, ?_⟩
                  rcases q206 with ⟨a214, a215, a216, a217, a218⟩ | ⟨a219, a220⟩
                  · have _q : True := trivial
                    exfalso
                    omega
                  · have _q : True := trivial
                    refine jx_ld (pc' := 177) (l' := L169) (st' := [.ref 66]) rfl (jl_aloadn gL169_0) ?_
                    refine jx_ld (pc' := 178) (l' := L169) (st' := [.int (i32 (nd)), .ref 66]) rfl (jl_iloadn gL169_2) ?_
                    refine jx_ld (pc' := 179) (l' := L169) (st' := [.int (i32 (lv)), .int (i32 (nd)), .ref 66]) rfl (jl_iloadn gL169_1) ?_
                    refine jx_ar (pc' := 180) (st' := [.int (i32 (2)), .int (i32 (lv)), .int (i32 (nd)), .ref 66]) rfl rfl rfl rfl ?_
                    refine jx_ar (pc' := 181) (st' := [.int (i32 (2)), .int (i32 (2)), .int (i32 (lv)), .int (i32 (nd)), .ref 66]) rfl rfl rfl rfl ?_
                    refine jx_vr (pc' := 184) (as := [.int (i32 (nd)), .int (i32 (lv)), .int (i32 (2)), .int (i32 (2))]) (st := []) rfl rfl rfl rfl ⟨rfl, rfl, Nat.le_of_ble_eq_true rfl⟩ rfl rfl (c_readChildren_f (dd := d) (zz := nd) (hd := by omega) (hW := hW202) (n := nd) (lv := lv) (least := 2) (mo := 2) (fk := fk2_201) (e_fk := show G198 16 = fk2_201 from (e205))  (h_n := ⟨(Int.le_trans (by decide : (-2147483648 : Int) ≤ 0) b_nd.1), (Int.le_trans b_nd.2 (by decide : (6999 : Int) ≤ 2147483647))⟩) (h_lv := ⟨(Int.le_trans (by decide : (-2147483648 : Int) ≤ -2147483648) h_lv.1), (Int.le_trans h_lv.2 (by decide : (2147483647 : Int) ≤ 2147483647))⟩) (h_least := ⟨(by decide), (by decide)⟩) (h_mo := ⟨(by decide), (by decide)⟩)  (p_0 := by omega) (p_1 := by omega) (p_2 := by omega) (p_3 := by omega)) (fun o V' hq => ?_)
                    obtain ⟨G221, A222, fk2_223, rfl, rfl, hW224, hF225, hQ226, e227, p228, -⟩ := hq
                    have hF230 := Fr_tr hF207 hF225 (Fr_sub (by decide)) (Fr_sub (by decide))
                    have hP231 := Pf_tr hP208 hQ226 (by omega)
                    have hS232 := Fx_f hS209 hF225 (by decide)
                    have hV233 := Fx_f hV210 hF225 (by decide)
                    have sf234 : NdO A222 (nd) (nd + 1) (sy) (nd) := NdO_f hF225 (by decide) sf212
                    have ec235 : ecn A222 (G221 31) = ec2_154 := (ecn_f (hF225.2 15 rfl) (hF225.1 31 rfl)).trans ec213
                    have bfk2_223 : (0 : Int) ≤ fk2_223 ∧ fk2_223 ≤ 6 := e227 ▸ hW224.1 16
                    refine .inl ⟨rfl, ?_⟩
                    refine jx_ld (pc' := 185) (l' := L169) (st' := [.int (i32 (nd))]) rfl (jl_iloadn gL169_2) ?_
                    refine jx_rt (v := some (.int (i32 (nd)))) rfl rfl rfl rfl rfl rfl ?_
                    exact ⟨_, _, _, ln2_200, at2_172, fk2_223, nd2_153, sy, na, vi, A 3 (ln2_200).toNat, ec2_154, rfl, rfl, hW224, hF230, hP231, hS232, hV233, by omega, ((hF225.1 9 rfl).trans (e204)), ((hF225.1 10 rfl).trans ((hF203.1 10 rfl).trans (e177))), (e227), ((hF225.1 31 rfl).trans ((hF203.1 31 rfl).trans ((hF176.1 31 rfl).trans (e158)))), ((hF225.1 19 rfl).trans ((hF203.1 19 rfl).trans ((hF176.1 19 rfl).trans ((hF156.1 19 rfl).trans ((hF124.1 19 rfl).trans (e_sy)))))), ((hF225.1 28 rfl).trans ((hF203.1 28 rfl).trans ((hF176.1 28 rfl).trans ((hF156.1 28 rfl).trans ((hF124.1 28 rfl).trans (e_na)))))), ((hF225.1 29 rfl).trans ((hF203.1 29 rfl).trans ((hF176.1 29 rfl).trans ((hF156.1 29 rfl).trans ((hF124.1 29 rfl).trans (e_vi)))))), (congrFun ((hF225.2 3 rfl).trans ((hF203.2 3 rfl).trans ((hF176.2 3 rfl).trans ((hF156.2 3 rfl).trans (hF124.2 3 rfl))))) _), ec235, by omega, by omega, by omega, by omega, by omega, by omega, by omega, by omega, by omega, by omega, by first | exact Or.inl (⟨by omega, by omega⟩)⟩
                · have _q : True := trivial
                  have pz236 : at2_121 + tz tk2_173 ≤ at2_172 := by omega
                  refine jx_ld (pc' := 173) (l' := L169) (st' := [.ref 66]) rfl (jl_aloadn gL169_0) ?_
                  refine jx_vr (pc' := 176) (as := []) (st := []) rfl rfl rfl rfl ⟨rfl, rfl, Nat.le_of_ble_eq_true rfl⟩ rfl rfl (c_endLine (dd := d) (hd := by omega) (hW := hW175)  (ln := ln) (e_ln := show G170 9 = ln from ((hF176.1 9 rfl).trans ((hF156.1 9 rfl).trans ((hF124.1 9 rfl).trans (e_ln))))) (li := li) (e_li := show G170 3 = li from ((hF176.1 3 rfl).trans ((hF156.1 3 rfl).trans ((hF124.1 3 rfl).trans (e_li))))) (fk := fk2_174) (e_fk := show G170 16 = fk2_174 from (e179)) (tk0 := tk2_173) (e_tk0 := show G170 11 = tk2_173 from (e178))    (p_0 := by omega)) (fun o V' hq => ?_)
                  obtain ⟨G237, A238, ln2_239, fk2_240, rfl, rfl, hW241, hF242, e243, e244, q245⟩ := hq
                  have hF246 := Fr_tr hF183 hF242 (Fr_sub (by decide)) (Fr_sub (by decide))
                  have hP247 := Pf_f hP184 hF242 (by decide)
                  have hS248 := Fx_f hS185 hF242 (by decide)
                  have hV249 := Fx_f hV186 hF242 (by decide)
                  have sf250 : ND A238 (nd) (28) (1) (0) (0) (0) (0) (0) := ND_ag (by omega) (Ag_fr hF242 (by decide)) sf187
                  have sf251 : NdO A238 (nd) (nd + 1) (sy) (nd) := NdO_f hF242 (by decide) sf188
                  have ec252 : ecn A238 (G237 31) = ec2_154 := (ecn_f (hF242.2 15 rfl) (hF242.1 31 rfl)).trans ec189
                  have bln2_239 : (0 : Int) ≤ ln2_239 ∧ ln2_239 ≤ 3000 := e243 ▸ hW241.1 9
                  have bfk2_240 : (0 : Int) ≤ fk2_240 ∧ fk2_240 ≤ 6 := e244 ▸ hW241.1 16
                  refine .inl ⟨rfl, ?_⟩
                  rcases q245 with ⟨a253, a254, a255, a256, a257⟩ | ⟨a258, a259⟩
                  · have _q : True := trivial
                    have b260 : (0 : Int) ≤ A 3 (ln2_239).toNat ∧ A 3 (ln2_239).toNat ≤ 3000 := hW.2 3 _
                    have lt261 : ln2_239 < li → le < A 3 (ln2_239).toNat := fun hh => LT_nx (LT_ext (((hF242.1 3 rfl).trans ((hF176.1 3 rfl).trans ((hF156.1 3 rfl).trans (hF124.1 3 rfl))))) (((hF242.2 3 rfl).trans ((hF176.2 3 rfl).trans ((hF156.2 3 rfl).trans (hF124.2 3 rfl))))) (((hF242.2 4 rfl).trans ((hF176.2 4 rfl).trans ((hF156.2 4 rfl).trans (hF124.2 4 rfl))))) i_LT) (show G237 3 = li from ((hF242.1 3 rfl).trans ((hF176.1 3 rfl).trans ((hF156.1 3 rfl).trans ((hF124.1 3 rfl).trans (e_li)))))) (show A238 4 (ln).toNat = le from (congrFun ((hF242.2 4 rfl).trans ((hF176.2 4 rfl).trans ((hF156.2 4 rfl).trans (hF124.2 4 rfl)))) _).trans (e_le)) (show A238 3 (ln2_239).toNat = A 3 (ln2_239).toNat from (congrFun ((hF242.2 3 rfl).trans ((hF176.2 3 rfl).trans ((hF156.2 3 rfl).trans (hF124.2 3 rfl)))) _)) (show ln2_239 = ln + 1 by omega) (by omega) hh
                    refine jx_ld (pc' := 177) (l' := L169) (st' := [.ref 66]) rfl (jl_aloadn gL169_0) ?_
                    refine jx_ld (pc' := 178) (l' := L169) (st' := [.int (i32 (nd)), .ref 66]) rfl (jl_iloadn gL169_2) ?_
                    refine jx_ld (pc' := 179) (l' := L169) (st' := [.int (i32 (lv)), .int (i32 (nd)), .ref 66]) rfl (jl_iloadn gL169_1) ?_
                    refine jx_ar (pc' := 180) (st' := [.int (i32 (2)), .int (i32 (lv)), .int (i32 (nd)), .ref 66]) rfl rfl rfl rfl ?_
                    refine jx_ar (pc' := 181) (st' := [.int (i32 (2)), .int (i32 (2)), .int (i32 (lv)), .int (i32 (nd)), .ref 66]) rfl rfl rfl rfl ?_
                    refine jx_vr (pc' := 184) (as := [.int (i32 (nd)), .int (i32 (lv)), .int (i32 (2)), .int (i32 (2))]) (st := []) rfl rfl rfl rfl ⟨rfl, rfl, Nat.le_of_ble_eq_true rfl⟩ rfl rfl (c_readChildren_w (dd := d) (hP := hP) (zz := nd) (hd := by omega) (hW := hW241) (n := nd) (lv := lv) (least := 2) (mo := 2) (kk := 28) (aa := 1) (bb := 0) (cc := 0) (de := 0) (xx := 0) (ln := ln2_239) (e_ln := show G237 9 = ln2_239 from (e243)) (li := li) (e_li := show G237 3 = li from ((hF242.1 3 rfl).trans ((hF176.1 3 rfl).trans ((hF156.1 3 rfl).trans ((hF124.1 3 rfl).trans (e_li)))))) (at0 := at2_172) (e_at0 := show G237 10 = at2_172 from ((hF242.1 10 rfl).trans (e177))) (fk := fk2_240) (e_fk := show G237 16 = fk2_240 from (e244)) (nd := nd2_153) (e_nd := show G237 31 = nd2_153 from ((hF242.1 31 rfl).trans ((hF176.1 31 rfl).trans (e158)))) (sy := sy) (e_sy := show G237 19 = sy from ((hF242.1 19 rfl).trans ((hF176.1 19 rfl).trans ((hF156.1 19 rfl).trans ((hF124.1 19 rfl).trans (e_sy)))))) (na := na) (e_na := show G237 28 = na from ((hF242.1 28 rfl).trans ((hF176.1 28 rfl).trans ((hF156.1 28 rfl).trans ((hF124.1 28 rfl).trans (e_na)))))) (vi := vi) (e_vi := show G237 29 = vi from ((hF242.1 29 rfl).trans ((hF176.1 29 rfl).trans ((hF156.1 29 rfl).trans ((hF124.1 29 rfl).trans (e_vi)))))) (lf := A 3 (ln2_239).toNat) (e_lf := show A238 3 (ln2_239).toNat = A 3 (ln2_239).toNat from (congrFun ((hF242.2 3 rfl).trans ((hF176.2 3 rfl).trans ((hF156.2 3 rfl).trans (hF124.2 3 rfl)))) _)) (ec := ec2_154) (e_ec := show ecn A238 (G237 31) = ec2_154 from ec252) (i_LT := (LT_ext (((hF242.1 3 rfl).trans ((hF176.1 3 rfl).trans ((hF156.1 3 rfl).trans (hF124.1 3 rfl))))) (((hF242.2 3 rfl).trans ((hF176.2 3 rfl).trans ((hF156.2 3 rfl).trans (hF124.2 3 rfl))))) (((hF242.2 4 rfl).trans ((hF176.2 4 rfl).trans ((hF156.2 4 rfl).trans (hF124.2 4 rfl))))) i_LT)) (i_SV := (SV_fx i_SV e_vi (show G237 29 = vi from ((hF242.1 29 rfl).trans ((hF176.1 29 rfl).trans ((hF156.1 29 rfl).trans ((hF124.1 29 rfl).trans (e_vi)))))) (by omega) hV249)) (i_PQ := (PQ_fx i_PQ hS248 (by omega) (hF246.2 29 rfl) (hF246.2 30 rfl))) (hvb := hvb) (h_n := ⟨(Int.le_trans (by decide : (-2147483648 : Int) ≤ 0) b_nd.1), (Int.le_trans b_nd.2 (by decide : (6999 : Int) ≤ 2147483647))⟩) (h_lv := ⟨(Int.le_trans (by decide : (-2147483648 : Int) ≤ -2147483648) h_lv.1), (Int.le_trans h_lv.2 (by decide : (2147483647 : Int) ≤ 2147483647))⟩) (h_least := ⟨(by decide), (by decide)⟩) (h_mo := ⟨(by decide), (by decide)⟩)  (p_0 := by omega) (p_1 := by omega) (p_2 := by omega) (p_3 := by omega) (p_4 := by omega) (p_5 := by omega) (p_6 := by omega) (p_7 := by omega) (p_8 := by omega) (p_9 := by omega) (p_10 := by omega) (p_11 := by omega) (p_12 := by omega) (p_13 := by omega) (p_14 := by omega) (p_15 := sf250) (p_16 := sf251)) (fun o V' hq => ?_)
                    obtain ⟨G262, A263, ln2_264, at2_265, fk2_266, nd2_267, sy2_268, na2_269, vi2_270, lf2_271, mm_272, f2_273, ec2_274, rfl, rfl, hW275, hF276, hQ277, hQ278, hQ279, hQ280, e281, e282, e283, e284, e285, e286, e287, e288, e289, e290, e291, p292, p293, p294, p295, p296, p297, p298, q299⟩ := hq
                    have hF300 := Fr_tr hF246 hF276 (Fr_sub (by decide)) (Fr_sub (by decide))
                    have hP301 := Pf_tr hP247 hQ277 (by omega)
                    have hS302 := Fx_tr hS248 hQ279 (by omega)
                    have hV303 := Fx_tr hV249 hQ280 (by omega)
                    have sf304 : NdM A263 (nd + 1) (nd + 1) (sy) := NdM_px hQ278 (by omega) (by omega) (by omega) (NdO_r (lo' := nd + 1) (by omega) (by omega) sf251)
                    have bln2_264 : (0 : Int) ≤ ln2_264 ∧ ln2_264 ≤ 3000 := e281 ▸ hW275.1 9
                    have bat2_265 : (0 : Int) ≤ at2_265 ∧ at2_265 ≤ 3002 := e282 ▸ hW275.1 10
                    have bfk2_266 : (0 : Int) ≤ fk2_266 ∧ fk2_266 ≤ 6 := e283 ▸ hW275.1 16
                    have bnd2_267 : (0 : Int) ≤ nd2_267 ∧ nd2_267 ≤ 6999 := e284 ▸ hW275.1 31
                    have bsy2_268 : (0 : Int) ≤ sy2_268 ∧ sy2_268 ≤ 202 := e285 ▸ hW275.1 19
                    have bna2_269 : (0 : Int) ≤ na2_269 ∧ na2_269 ≤ 200 := e286 ▸ hW275.1 28
                    have bvi2_270 : (0 : Int) ≤ vi2_270 ∧ vi2_270 ≤ 202 := e287 ▸ hW275.1 29
                    have blf2_271 : (0 : Int) ≤ lf2_271 ∧ lf2_271 ≤ 3000 := e288 ▸ hW275.2 3 _
                    have bmm_272 : (-2147483648 : Int) ≤ mm_272 ∧ mm_272 ≤ 2147483647 := e289 ▸ hW275.2 18 _
                    have bf2_273 : (-2147483648 : Int) ≤ f2_273 ∧ f2_273 ≤ 2147483647 := e290 ▸ hW275.2 21 _
                    refine .inl ⟨rfl, ?_⟩
                    rcases q299 with ⟨a305, a306⟩ | ⟨a307, a308, a309, a310, a311, a312, a313, a314, a315, a316⟩
                    · have _q : True := trivial
                      refine jx_ld (pc' := 185) (l' := L169) (st' := [.int (i32 (nd))]) rfl (jl_iloadn gL169_2) ?_
                      refine jx_rt (v := some (.int (i32 (nd)))) rfl rfl rfl rfl rfl rfl ?_
                      exact ⟨_, _, _, ln2_264, at2_265, fk2_266, nd2_267, sy2_268, na2_269, vi2_270, lf2_271, ec2_274, rfl, rfl, hW275, hF300, hP301, hS302, hV303, by omega, (e281), (e282), (e283), (e284), (e285), (e286), (e287), (e288), e291, by omega, by omega, by omega, by omega, by omega, by omega, by omega, by omega, by omega, by omega, by first | exact Or.inl (⟨by omega, by omega⟩)⟩
                    · have _q : True := trivial
                      refine jx_ld (pc' := 185) (l' := L169) (st' := [.int (i32 (nd))]) rfl (jl_iloadn gL169_2) ?_
                      refine jx_rt (v := some (.int (i32 (nd)))) rfl rfl rfl rfl rfl rfl ?_
                      exact ⟨_, _, _, ln2_264, at2_265, fk2_266, nd2_267, sy2_268, na2_269, vi2_270, lf2_271, ec2_274, rfl, rfl, hW275, hF300, hP301, hS302, hV303, by omega, (e281), (e282), (e283), (e284), (e285), (e286), (e287), (e288), e291, by omega, by omega, by omega, by omega, by omega, by omega, by omega, by omega, by omega, by omega, by first | exact Or.inr ((⟨by omega, by omega, by omega, by omega, by omega, by omega, by omega, (wS_par a312 (RL_eq a313 (by omega) (by omega) (by omega) (by omega) (by omega)) (by omega) (by omega) (by omega)), (NX_nd a312), by omega, (NdO_w (NdO_app (sy := sy) a315 (NdO_app (sy := sy) (NdO_m (r := nd) sf304) (NdO_m (r := nd) a316) (by omega) (by omega) (by omega)) (by omega) (by omega) (by omega)) (by omega) (by omega) (by omega))⟩))⟩
                  · have _q : True := trivial
                    refine jx_ld (pc' := 177) (l' := L169) (st' := [.ref 66]) rfl (jl_aloadn gL169_0) ?_
                    refine jx_ld (pc' := 178) (l' := L169) (st' := [.int (i32 (nd)), .ref 66]) rfl (jl_iloadn gL169_2) ?_
                    refine jx_ld (pc' := 179) (l' := L169) (st' := [.int (i32 (lv)), .int (i32 (nd)), .ref 66]) rfl (jl_iloadn gL169_1) ?_
                    refine jx_ar (pc' := 180) (st' := [.int (i32 (2)), .int (i32 (lv)), .int (i32 (nd)), .ref 66]) rfl rfl rfl rfl ?_
                    refine jx_ar (pc' := 181) (st' := [.int (i32 (2)), .int (i32 (2)), .int (i32 (lv)), .int (i32 (nd)), .ref 66]) rfl rfl rfl rfl ?_
                    refine jx_vr (pc' := 184) (as := [.int (i32 (nd)), .int (i32 (lv)), .int (i32 (2)), .int (i32 (2))]) (st := []) rfl rfl rfl rfl ⟨rfl, rfl, Nat.le_of_ble_eq_true rfl⟩ rfl rfl (c_readChildren_f (dd := d) (zz := nd) (hd := by omega) (hW := hW241) (n := nd) (lv := lv) (least := 2) (mo := 2) (fk := fk2_240) (e_fk := show G237 16 = fk2_240 from (e244))  (h_n := ⟨(Int.le_trans (by decide : (-2147483648 : Int) ≤ 0) b_nd.1), (Int.le_trans b_nd.2 (by decide : (6999 : Int) ≤ 2147483647))⟩) (h_lv := ⟨(Int.le_trans (by decide : (-2147483648 : Int) ≤ -2147483648) h_lv.1), (Int.le_trans h_lv.2 (by decide : (2147483647 : Int) ≤ 2147483647))⟩) (h_least := ⟨(by decide), (by decide)⟩) (h_mo := ⟨(by decide), (by decide)⟩)  (p_0 := by omega) (p_1 := by omega) (p_2 := by omega) (p_3 := by omega)) (fun o V' hq => ?_)
                    obtain ⟨G317, A318, fk2_319, rfl, rfl, hW320, hF321, hQ322, e323, p324, -⟩ := hq
                    have hF326 := Fr_tr hF246 hF321 (Fr_sub (by decide)) (Fr_sub (by decide))
                    have hP327 := Pf_tr hP247 hQ322 (by omega)
                    have hS328 := Fx_f hS248 hF321 (by decide)
                    have hV329 := Fx_f hV249 hF321 (by decide)
                    have sf330 : NdO A318 (nd) (nd + 1) (sy) (nd) := NdO_f hF321 (by decide) sf251
                    have ec331 : ecn A318 (G317 31) = ec2_154 := (ecn_f (hF321.2 15 rfl) (hF321.1 31 rfl)).trans ec252
                    have bfk2_319 : (0 : Int) ≤ fk2_319 ∧ fk2_319 ≤ 6 := e323 ▸ hW320.1 16
                    refine .inl ⟨rfl, ?_⟩
                    refine jx_ld (pc' := 185) (l' := L169) (st' := [.int (i32 (nd))]) rfl (jl_iloadn gL169_2) ?_
                    refine jx_rt (v := some (.int (i32 (nd)))) rfl rfl rfl rfl rfl rfl ?_
                    exact ⟨_, _, _, ln2_239, at2_172, fk2_319, nd2_153, sy, na, vi, A 3 (ln2_239).toNat, ec2_154, rfl, rfl, hW320, hF326, hP327, hS328, hV329, by omega, ((hF321.1 9 rfl).trans (e243)), ((hF321.1 10 rfl).trans ((hF242.1 10 rfl).trans (e177))), (e323), ((hF321.1 31 rfl).trans ((hF242.1 31 rfl).trans ((hF176.1 31 rfl).trans (e158)))), ((hF321.1 19 rfl).trans ((hF242.1 19 rfl).trans ((hF176.1 19 rfl).trans ((hF156.1 19 rfl).trans ((hF124.1 19 rfl).trans (e_sy)))))), ((hF321.1 28 rfl).trans ((hF242.1 28 rfl).trans ((hF176.1 28 rfl).trans ((hF156.1 28 rfl).trans ((hF124.1 28 rfl).trans (e_na)))))), ((hF321.1 29 rfl).trans ((hF242.1 29 rfl).trans ((hF176.1 29 rfl).trans ((hF156.1 29 rfl).trans ((hF124.1 29 rfl).trans (e_vi)))))), (congrFun ((hF321.2 3 rfl).trans ((hF242.2 3 rfl).trans ((hF176.2 3 rfl).trans ((hF156.2 3 rfl).trans (hF124.2 3 rfl))))) _), ec331, by omega, by omega, by omega, by omega, by omega, by omega, by omega, by omega, by omega, by omega, by first | exact Or.inl (⟨by omega, by omega⟩)⟩
              · have _q := h150
                exact absurd h150 (by omega)
            · have _q : True := trivial
              refine jx_if_ne (pc' := 145) (tg := 156) rfl rfl rfl (by decide) (by decide) (fun h332 => ?_) (fun h332 => ?_)
              · have _q := h332
                exact absurd h332 (by omega)
              · have _q := h332
                refine jx_ld (pc' := 146) (l' := L7) (st' := [.ref 66]) rfl (jl_aloadn gL7_0) ?_
                refine jx_ar (pc' := 147) (st' := [.int (i32 (1)), .ref 66]) rfl rfl rfl rfl ?_
                refine jx_ld (pc' := 148) (l' := L7) (st' := [.ref 66, .int (i32 (1)), .ref 66]) rfl (jl_aloadn gL7_0) ?_
                have b333 : (-3000 : Int) ≤ G119 12 ∧ G119 12 ≤ 3002 := hW123.1 12
                refine jr_get (pc' := 151) (i := 12) (v := .int (i32 (G119 12))) rfl rfl (by decide) rfl rfl ?_
                refine jx_vr (pc' := 154) (as := [.int (i32 (1)), .int (i32 (G119 12))]) (st := []) rfl rfl rfl rfl ⟨rfl, rfl, Nat.le_of_ble_eq_true rfl⟩ rfl rfl (c_fail (dd := d) (hd := by omega) (hW := hW123) (kind := 1) (place := G119 12) (fk := fk) (e_fk := show G119 16 = fk from ((hF124.1 16 rfl).trans (e_fk)))  (h_kind := ⟨(by decide), (by decide)⟩) (h_place := ⟨(Int.le_trans (by decide : (-2147483648 : Int) ≤ -3000) b333.1), (Int.le_trans b333.2 (by decide : (3002 : Int) ≤ 2147483647))⟩)  (p_0 := by omega) (p_1 := by omega)) (fun o V' hq => ?_)
                obtain ⟨G334, A335, fk2_336, rfl, rfl, hW337, hF338, e339, p340, -⟩ := hq
                have hF342 := Fr_tr hF131 hF338 (Fr_sub (by decide)) (Fr_sub (by decide))
                have hP343 := Pf_f hP132 hF338 (by decide)
                have hS344 := Fx_f hS133 hF338 (by decide)
                have hV345 := Fx_f hV134 hF338 (by decide)
                have ec346 : ecn A335 (G334 31) = ec := (ecn_f (hF338.2 15 rfl) (hF338.1 31 rfl)).trans ec135
                have bfk2_336 : (0 : Int) ≤ fk2_336 ∧ fk2_336 ≤ 6 := e339 ▸ hW337.1 16
                refine .inl ⟨rfl, ?_⟩
                refine jx_ar (pc' := 155) (st' := [.int (i32 (0))]) rfl rfl rfl rfl ?_
                refine jx_rt (v := some (.int (i32 (0)))) rfl rfl rfl rfl rfl rfl ?_
                exact ⟨_, _, _, ln, at2_121, fk2_336, nd, sy, na, vi, A 3 (ln).toNat, ec, rfl, rfl, hW337, hF342, hP343, hS344, hV345, by omega, ((hF338.1 9 rfl).trans ((hF124.1 9 rfl).trans (e_ln))), ((hF338.1 10 rfl).trans (e125)), (e339), ((hF338.1 31 rfl).trans ((hF124.1 31 rfl).trans (e_nd))), ((hF338.1 19 rfl).trans ((hF124.1 19 rfl).trans (e_sy))), ((hF338.1 28 rfl).trans ((hF124.1 28 rfl).trans (e_na))), ((hF338.1 29 rfl).trans ((hF124.1 29 rfl).trans (e_vi))), (congrFun ((hF338.2 3 rfl).trans (hF124.2 3 rfl)) _), ec346, by omega, by omega, by omega, by omega, by omega, by omega, by omega, by omega, by omega, by omega, by first | exact Or.inl (⟨by omega, by omega⟩)⟩
      · refine jx_swe (z := 4) (tg := 253) h8 rfl rfl rfl rfl ?_
        refine jx_ld (pc' := 254) (l' := L7) (st' := [.ref 66]) rfl (jl_aloadn gL7_0) ?_
        refine jx_ld (pc' := 255) (l' := L7) (st' := [.int (i32 (lv)), .ref 66]) rfl (jl_iloadn gL7_1) ?_
        refine jx_vr (pc' := 258) (as := [.int (i32 (lv))]) (st := []) rfl rfl rfl rfl ⟨rfl, rfl, Nat.le_of_ble_eq_true rfl⟩ rfl rfl (c_readAlt_w (dd := d) (hP := hP) (hd := by omega) (hW := hW) (lv := lv) (ln := ln) (e_ln := show G 9 = ln from (e_ln)) (li := li) (e_li := show G 3 = li from (e_li)) (at0 := at0) (e_at0 := show G 10 = at0 from (e_at0)) (fk := fk) (e_fk := show G 16 = fk from (e_fk)) (nd := nd) (e_nd := show G 31 = nd from (e_nd)) (sy := sy) (e_sy := show G 19 = sy from (e_sy)) (na := na) (e_na := show G 28 = na from (e_na)) (vi := vi) (e_vi := show G 29 = vi from (e_vi)) (le := le) (e_le := show A 4 (ln).toNat = le from (e_le)) (op0 := op0) (e_op0 := show G 15 = op0 from (e_op0)) (tk0 := tk0) (e_tk0 := show G 11 = tk0 from (e_tk0)) (ec := ec) (e_ec := show ecn A (G 31) = ec from e_ec) (i_LT := (LT_ext (rfl) (rfl) (rfl) i_LT)) (i_SV := (SV_fx i_SV e_vi (show G 29 = vi from (e_vi)) (by omega) hV0)) (i_PQ := (PQ_fx i_PQ hS0 (by omega) (hF0.2 29 rfl) (hF0.2 30 rfl))) (hvb := hvb) (h_lv := ⟨(Int.le_trans (by decide : (-2147483648 : Int) ≤ -2147483648) h_lv.1), (Int.le_trans h_lv.2 (by decide : (2147483647 : Int) ≤ 2147483647))⟩)  (p_0 := by omega) (p_1 := by omega) (p_2 := by omega) (p_3 := by omega) (p_4 := by omega) (p_5 := by omega) (p_6 := by omega) (p_7 := by omega) (p_8 := by omega) (p_9 := by omega) (p_10 := by omega)) (fun o V' hq => ?_)
        obtain ⟨G347, A348, r349, ln2_350, at2_351, fk2_352, nd2_353, sy2_354, na2_355, vi2_356, lf2_357, ec2_358, rfl, rfl, hW359, hF360, hQ361, hQ362, hQ363, b364, e365, e366, e367, e368, e369, e370, e371, e372, e373, p374, p375, p376, p377, p378, p379, p380, p381, p382, p383, q384⟩ := hq
        have hF385 := Fr_tr hF0 hF360 (Fr_sub (by decide)) (Fr_sub (by decide))
        have hP386 := Pf_tr hP0 hQ361 (by omega)
        have hS387 := Fx_tr hS0 hQ362 (by omega)
        have hV388 := Fx_tr hV0 hQ363 (by omega)
        have bln2_350 : (0 : Int) ≤ ln2_350 ∧ ln2_350 ≤ 3000 := e365 ▸ hW359.1 9
        have bat2_351 : (0 : Int) ≤ at2_351 ∧ at2_351 ≤ 3002 := e366 ▸ hW359.1 10
        have bfk2_352 : (0 : Int) ≤ fk2_352 ∧ fk2_352 ≤ 6 := e367 ▸ hW359.1 16
        have bnd2_353 : (0 : Int) ≤ nd2_353 ∧ nd2_353 ≤ 6999 := e368 ▸ hW359.1 31
        have bsy2_354 : (0 : Int) ≤ sy2_354 ∧ sy2_354 ≤ 202 := e369 ▸ hW359.1 19
        have bna2_355 : (0 : Int) ≤ na2_355 ∧ na2_355 ≤ 200 := e370 ▸ hW359.1 28
        have bvi2_356 : (0 : Int) ≤ vi2_356 ∧ vi2_356 ≤ 202 := e371 ▸ hW359.1 29
        have blf2_357 : (0 : Int) ≤ lf2_357 ∧ lf2_357 ≤ 3000 := e372 ▸ hW359.2 3 _
        refine .inr ⟨_, rfl, ?_⟩
        rcases q384 with ⟨a389, a390⟩ | ⟨a391, a392, a393, a394, a395, a396, a397, a398, a399, a400, a401⟩
        · have _q : True := trivial
          refine jx_rt (v := some (.int (i32 (r349)))) rfl rfl rfl rfl rfl rfl ?_
          exact ⟨_, _, _, ln2_350, at2_351, fk2_352, nd2_353, sy2_354, na2_355, vi2_356, lf2_357, ec2_358, rfl, rfl, hW359, hF385, hP386, hS387, hV388, by omega, (e365), (e366), (e367), (e368), (e369), (e370), (e371), (e372), e373, by omega, by omega, by omega, by omega, by omega, by omega, by omega, by omega, by omega, by omega, by first | exact Or.inl (⟨by omega, by omega⟩)⟩
        · have _q : True := trivial
          refine jx_rt (v := some (.int (i32 (r349)))) rfl rfl rfl rfl rfl rfl ?_
          exact ⟨_, _, _, ln2_350, at2_351, fk2_352, nd2_353, sy2_354, na2_355, vi2_356, lf2_357, ec2_358, rfl, rfl, hW359, hF385, hP386, hS387, hV388, by omega, (e365), (e366), (e367), (e368), (e369), (e370), (e371), (e372), e373, by omega, by omega, by omega, by omega, by omega, by omega, by omega, by omega, by omega, by omega, by first | exact Or.inr ((⟨by omega, by omega, by omega, by omega, by omega, by omega, by omega, a398, a399, by omega, (NdO_w (NdO_m (r := r349) a401) (by omega) (by omega) (by omega))⟩))⟩
      · refine jx_swe (z := 5) (tg := 192) h8 rfl rfl rfl rfl ?_
        refine jx_ld (pc' := 193) (l' := L7) (st' := [.ref 66]) rfl (jl_aloadn gL7_0) ?_
        refine jx_ld (pc' := 194) (l' := L7) (st' := [.int (i32 (lv)), .ref 66]) rfl (jl_iloadn gL7_1) ?_
        refine jx_vr (pc' := 197) (as := [.int (i32 (lv))]) (st := []) rfl rfl rfl rfl ⟨rfl, rfl, Nat.le_of_ble_eq_true rfl⟩ rfl rfl (c_readIf_w (dd := d) (hP := hP) (hd := by omega) (hW := hW) (lv := lv) (ln := ln) (e_ln := show G 9 = ln from (e_ln)) (li := li) (e_li := show G 3 = li from (e_li)) (at0 := at0) (e_at0 := show G 10 = at0 from (e_at0)) (fk := fk) (e_fk := show G 16 = fk from (e_fk)) (nd := nd) (e_nd := show G 31 = nd from (e_nd)) (sy := sy) (e_sy := show G 19 = sy from (e_sy)) (na := na) (e_na := show G 28 = na from (e_na)) (vi := vi) (e_vi := show G 29 = vi from (e_vi)) (le := le) (e_le := show A 4 (ln).toNat = le from (e_le)) (op0 := op0) (e_op0 := show G 15 = op0 from (e_op0)) (tk0 := tk0) (e_tk0 := show G 11 = tk0 from (e_tk0)) (ec := ec) (e_ec := show ecn A (G 31) = ec from e_ec) (i_LT := (LT_ext (rfl) (rfl) (rfl) i_LT)) (i_SV := (SV_fx i_SV e_vi (show G 29 = vi from (e_vi)) (by omega) hV0)) (i_PQ := (PQ_fx i_PQ hS0 (by omega) (hF0.2 29 rfl) (hF0.2 30 rfl))) (hvb := hvb) (h_lv := ⟨(Int.le_trans (by decide : (-2147483648 : Int) ≤ -2147483648) h_lv.1), (Int.le_trans h_lv.2 (by decide : (2147483647 : Int) ≤ 2147483647))⟩)  (p_0 := by omega) (p_1 := by omega) (p_2 := by omega) (p_3 := by omega) (p_4 := by omega) (p_5 := by omega) (p_6 := by omega) (p_7 := by omega) (p_8 := by omega) (p_9 := by omega) (p_10 := by omega)) (fun o V' hq => ?_)
        obtain ⟨G402, A403, r404, ln2_405, at2_406, fk2_407, nd2_408, sy2_409, na2_410, vi2_411, lf2_412, ec2_413, rfl, rfl, hW414, hF415, hQ416, hQ417, hQ418, b419, e420, e421, e422, e423, e424, e425, e426, e427, e428, p429, p430, p431, p432, p433, p434, p435, p436, p437, p438, q439⟩ := hq
        have hF440 := Fr_tr hF0 hF415 (Fr_sub (by decide)) (Fr_sub (by decide))
        have hP441 := Pf_tr hP0 hQ416 (by omega)
        have hS442 := Fx_tr hS0 hQ417 (by omega)
        have hV443 := Fx_tr hV0 hQ418 (by omega)
        have bln2_405 : (0 : Int) ≤ ln2_405 ∧ ln2_405 ≤ 3000 := e420 ▸ hW414.1 9
        have bat2_406 : (0 : Int) ≤ at2_406 ∧ at2_406 ≤ 3002 := e421 ▸ hW414.1 10
        have bfk2_407 : (0 : Int) ≤ fk2_407 ∧ fk2_407 ≤ 6 := e422 ▸ hW414.1 16
        have bnd2_408 : (0 : Int) ≤ nd2_408 ∧ nd2_408 ≤ 6999 := e423 ▸ hW414.1 31
        have bsy2_409 : (0 : Int) ≤ sy2_409 ∧ sy2_409 ≤ 202 := e424 ▸ hW414.1 19
        have bna2_410 : (0 : Int) ≤ na2_410 ∧ na2_410 ≤ 200 := e425 ▸ hW414.1 28
        have bvi2_411 : (0 : Int) ≤ vi2_411 ∧ vi2_411 ≤ 202 := e426 ▸ hW414.1 29
        have blf2_412 : (0 : Int) ≤ lf2_412 ∧ lf2_412 ≤ 3000 := e427 ▸ hW414.2 3 _
        refine .inr ⟨_, rfl, ?_⟩
        rcases q439 with ⟨a444, a445⟩ | ⟨a446, a447, a448, a449, a450, a451, a452, a453, a454, a455, a456⟩
        · have _q : True := trivial
          refine jx_rt (v := some (.int (i32 (r404)))) rfl rfl rfl rfl rfl rfl ?_
          exact ⟨_, _, _, ln2_405, at2_406, fk2_407, nd2_408, sy2_409, na2_410, vi2_411, lf2_412, ec2_413, rfl, rfl, hW414, hF440, hP441, hS442, hV443, by omega, (e420), (e421), (e422), (e423), (e424), (e425), (e426), (e427), e428, by omega, by omega, by omega, by omega, by omega, by omega, by omega, by omega, by omega, by omega, by first | exact Or.inl (⟨by omega, by omega⟩)⟩
        · have _q : True := trivial
          refine jx_rt (v := some (.int (i32 (r404)))) rfl rfl rfl rfl rfl rfl ?_
          exact ⟨_, _, _, ln2_405, at2_406, fk2_407, nd2_408, sy2_409, na2_410, vi2_411, lf2_412, ec2_413, rfl, rfl, hW414, hF440, hP441, hS442, hV443, by omega, (e420), (e421), (e422), (e423), (e424), (e425), (e426), (e427), e428, by omega, by omega, by omega, by omega, by omega, by omega, by omega, by omega, by omega, by omega, by first | exact Or.inr ((⟨by omega, by omega, by omega, by omega, by omega, by omega, by omega, a453, a454, by omega, (NdO_w (NdO_m (r := r404) a456) (by omega) (by omega) (by omega))⟩))⟩
      · refine jx_swe (z := 6) (tg := 198) h8 rfl rfl rfl rfl ?_
        refine jx_ld (pc' := 199) (l' := L7) (st' := [.ref 66]) rfl (jl_aloadn gL7_0) ?_
        refine jx_vr (pc' := 202) (as := []) (st := []) rfl rfl rfl rfl ⟨rfl, rfl, Nat.le_of_ble_eq_true rfl⟩ rfl rfl (c_next (dd := d) (hd := by omega) (hW := hW)  (ln := ln) (e_ln := show G 9 = ln from (e_ln)) (le := le) (e_le := show A 4 (ln).toNat = le from (e_le)) (at0 := at0) (e_at0 := show G 10 = at0 from (e_at0))    (p_0 := by omega)) (fun o V' hq => ?_)
        obtain ⟨G457, A458, at2_459, tk2_460, rfl, rfl, hW461, hF462, e463, e464, p465, p466, p467, -⟩ := hq
        have hF469 := Fr_tr hF0 hF462 (Fr_sub (by decide)) (Fr_sub (by decide))
        have hP470 := Pf_f hP0 hF462 (by decide)
        have hS471 := Fx_f hS0 hF462 (by decide)
        have hV472 := Fx_f hV0 hF462 (by decide)
        have ec473 : ecn A458 (G457 31) = ec := (ecn_f (hF462.2 15 rfl) (hF462.1 31 rfl)).trans e_ec
        have bat2_459 : (0 : Int) ≤ at2_459 ∧ at2_459 ≤ 3002 := e463 ▸ hW461.1 10
        have ztk2_460 := tz_b tk2_460
        have btk2_460 : (0 : Int) ≤ tk2_460 ∧ tk2_460 ≤ 5 := e464 ▸ hW461.1 11
        refine .inl ⟨rfl, ?_⟩
        have pz474 : at0 + tz tk2_460 ≤ at2_459 := by omega
        refine jx_ld (pc' := 203) (l' := L7) (st' := [.ref 66]) rfl (jl_aloadn gL7_0) ?_
        refine jx_ar (pc' := 205) (st' := [.int (i32 (31)), .ref 66]) rfl rfl rfl rfl ?_
        refine jx_ar (pc' := 206) (st' := [.int (i32 (0)), .int (i32 (31)), .ref 66]) rfl rfl rfl rfl ?_
        refine jx_ar (pc' := 207) (st' := [.int (i32 (0)), .int (i32 (0)), .int (i32 (31)), .ref 66]) rfl rfl rfl rfl ?_
        refine jx_ar (pc' := 208) (st' := [.int (i32 (0)), .int (i32 (0)), .int (i32 (0)), .int (i32 (31)), .ref 66]) rfl rfl rfl rfl ?_
        refine jx_ar (pc' := 209) (st' := [.int (i32 (0)), .int (i32 (0)), .int (i32 (0)), .int (i32 (0)), .int (i32 (31)), .ref 66]) rfl rfl rfl rfl ?_
        refine jx_vr (pc' := 212) (as := [.int (i32 (31)), .int (i32 (0)), .int (i32 (0)), .int (i32 (0)), .int (i32 (0))]) (st := []) rfl rfl rfl rfl ⟨rfl, rfl, Nat.le_of_ble_eq_true rfl⟩ rfl rfl (c_node_o (dd := d) (hd := by omega) (hW := hW461) (kind := 31) (a := 0) (b := 0) (c := 0) (e := 0) (nd := nd) (e_nd := show G457 31 = nd from ((hF462.1 31 rfl).trans (e_nd))) (ec := ec) (e_ec := show ecn A458 (G457 31) = ec from ec473) (sy := sy) (e_sy := show G457 19 = sy from ((hF462.1 19 rfl).trans (e_sy)))  (h_kind := ⟨(by decide), (by decide)⟩) (h_a := ⟨(by decide), (by decide)⟩) (h_b := ⟨(by decide), (by decide)⟩) (h_c := ⟨(by decide), (by decide)⟩) (h_e := ⟨(by decide), (by decide)⟩)  (p_0 := by omega) (p_1 := by omega) (p_2 := by omega)) (fun o V' hq => ?_)
        obtain ⟨G475, A476, nd2_477, ec2_478, rfl, rfl, hW479, hF480, hQ481, e482, e483, p484, p485, p486, p487, -⟩ := hq
        have hF489 := Fr_tr hF469 hF480 (Fr_sub (by decide)) (Fr_sub (by decide))
        have hP490 := Pf_tr hP470 hQ481 (by omega)
        have hS491 := Fx_f hS471 hF480 (by decide)
        have hV492 := Fx_f hV472 hF480 (by decide)
        have bnd2_477 : (0 : Int) ≤ nd2_477 ∧ nd2_477 ≤ 6999 := e482 ▸ hW479.1 31
        refine .inr ⟨_, rfl, ?_⟩
        refine jx_ld (pc' := 213) (l' := jSto1 L7 2 (.int (i32 (nd)))) (st' := []) rfl rfl ?_
        obtain ⟨L493, eL493⟩ : ∃ q, q = jSto1 L7 2 (.int (i32 (nd))) := ⟨_, rfl⟩
        rw [← eL493]
        have gL493_0 : jGet L493 0 = some (.ref 66) := eL493 ▸ jg_ne (by decide) gL7_0 rfl
        have gL493_1 : jGet L493 1 = some (.int (i32 (lv))) := eL493 ▸ jg_ne (by decide) gL7_1 rfl
        have gL493_3 : jGet L493 3 = some (.int (i32 (G 13))) := eL493 ▸ jg_ne (by decide) gL7_3 rfl
        have gL493_2 : jGet L493 2 = some (.int (i32 (nd))) := eL493 ▸ jg_eq
        refine jx_ld (pc' := 214) (l' := L493) (st' := [.ref 66]) rfl (jl_aloadn gL493_0) ?_
        refine jr_get (pc' := 217) (i := 34) (v := .ref 84) rfl rfl (by decide) rfl rfl ?_
        refine jx_ld (pc' := 218) (l' := L493) (st' := [.int (i32 (nd)), .ref 84]) rfl (jl_iloadn gL493_2) ?_
        refine jx_ld (pc' := 219) (l' := L493) (st' := [.ref 66, .int (i32 (nd)), .ref 84]) rfl (jl_aloadn gL493_0) ?_
        refine jx_vr (pc' := 222) (as := []) (st := [.int (i32 (nd)), .ref 84]) rfl rfl rfl rfl ⟨rfl, rfl, Nat.le_of_ble_eq_true rfl⟩ rfl rfl (REw_all X 9 (dd := d) (hd := by omega) (hW := hW479)  (ln := ln) (e_ln := show G475 9 = ln from ((hF480.1 9 rfl).trans ((hF462.1 9 rfl).trans (e_ln)))) (le := le) (e_le := show A476 4 (ln).toNat = le from (congrFun ((hF480.2 4 rfl).trans (hF462.2 4 rfl)) _).trans (e_le)) (at0 := at2_459) (e_at0 := show G475 10 = at2_459 from ((hF480.1 10 rfl).trans (e463))) (fk := fk) (e_fk := show G475 16 = fk from ((hF480.1 16 rfl).trans ((hF462.1 16 rfl).trans (e_fk)))) (op0 := op0) (e_op0 := show G475 15 = op0 from ((hF480.1 15 rfl).trans ((hF462.1 15 rfl).trans (e_op0)))) (nd := nd2_477) (e_nd := show G475 31 = nd2_477 from (e482)) (tk0 := tk2_460) (e_tk0 := show G475 11 = tk2_460 from ((hF480.1 11 rfl).trans (e464))) (ec := ec2_478) (e_ec := show ecn A476 (G475 31) = ec2_478 from e483) (sy := sy) (e_sy := show G475 19 = sy from ((hF480.1 19 rfl).trans ((hF462.1 19 rfl).trans (e_sy)))) (i_SV := (SV_fx i_SV e_vi (show G475 29 = vi from ((hF480.1 29 rfl).trans ((hF462.1 29 rfl).trans (e_vi)))) (by omega) hV492))   (p_0 := by omega) (p_1 := by omega) (p_2 := by omega) (p_3 := by omega) (p_4 := by omega) (p_5 := by omega)) (fun o V' hq => ?_)
        obtain ⟨G494, A495, r496, at2_497, fk2_498, op2_499, nd2_500, tk2_501, ec2_502, rfl, rfl, hW503, hF504, hQ505, b506, e507, e508, e509, e510, e511, e512, p513, p514, p515, p516, p517, p518, q519⟩ := hq
        have hF520 := Fr_tr hF489 hF504 (Fr_sub (by decide)) (Fr_sub (by decide))
        have hP521 := Pf_tr hP490 hQ505 (by omega)
        have hS522 := Fx_f hS491 hF504 (by decide)
        have hV523 := Fx_f hV492 hF504 (by decide)
        have sf524 : ND A495 (nd) (31) (0) (0) (0) (0) (0) (0) := ND_ag (by omega) (Ag_pf hQ505 (by omega)) p486
        have sf525 : NdM A495 (nd) (nd + 1) (sy) := NdM_pf hQ505 (by omega) (by omega) p487
        have bat2_497 : (0 : Int) ≤ at2_497 ∧ at2_497 ≤ 3002 := e507 ▸ hW503.1 10
        have bfk2_498 : (0 : Int) ≤ fk2_498 ∧ fk2_498 ≤ 6 := e508 ▸ hW503.1 16
        have bop2_499 : (-2147483648 : Int) ≤ op2_499 ∧ op2_499 ≤ 2147483647 := e509 ▸ hW503.1 15
        have bnd2_500 : (0 : Int) ≤ nd2_500 ∧ nd2_500 ≤ 6999 := e510 ▸ hW503.1 31
        have ztk2_501 := tz_b tk2_501
        have btk2_501 : (0 : Int) ≤ tk2_501 ∧ tk2_501 ≤ 5 := e511 ▸ hW503.1 11
        refine .inr ⟨_, rfl, ?_⟩
        rcases q519 with ⟨a526, a527, a528, a529, a530, a531⟩ | ⟨a532, a533, a534⟩ | ⟨a535, a536, a537, a538, a539, a540, a541⟩
        · have _q : True := trivial
          exfalso
          omega
        · have _q : True := trivial
          refine jr_st (pc' := 223) (i := 17) (m := 7000) (z := nd) (y := r496) rfl (by decide) rfl (by decide) (by omega) (by omega) rfl ?_
          have hW543 : Wk G494 (uA A495 17 (nd).toNat (r496)) := Wk_a hW503 (show (-2147483648 : Int) ≤ r496 by omega) (show r496 ≤ (2147483647 : Int) by omega)
          have hF544 := Fr_a (z := r496) (k := 17) (n := (nd).toNat) hF520 (by decide)
          obtain ⟨A542, eA542⟩ : ∃ q, q = uA A495 17 (nd).toNat (r496) := ⟨_, rfl⟩
          rw [← eA542]
          rw [← eA542] at hW543 hF544
          have q545 : A542 17 (nd).toNat = r496 := by rw [eA542]; exact uA_eq
          have hP546 : Pf nd A A542 := eA542 ▸ Pf_a hP521 (z := nd) (by omega) (by omega)
          have hS547 : Fx sr (sy) A A542 := eA542 ▸ Fx_n hS522 rfl
          have hV548 : Fx [14] (vi) A A542 := eA542 ▸ Fx_n hV523 rfl
          have sf549 : ND A542 (nd) (31) (r496) (0) (0) (0) (0) (0) := ND_a eA542 sf524
          have sf550 : NdM A542 (nd) (nd + 1) (sy) := NdM_st eA542 (by decide) sf525
          have ec551 : ecn A542 (G494 31) = ec2_502 := (ecn_e ((congrFun eA542 15).trans (uA_ne (by decide)))).trans e512
          refine jx_ld (pc' := 224) (l' := L493) (st' := [.ref 66]) rfl (jl_aloadn gL493_0) ?_
          refine jx_vr (pc' := 227) (as := []) (st := []) rfl rfl rfl rfl ⟨rfl, rfl, Nat.le_of_ble_eq_true rfl⟩ rfl rfl (c_endLine (dd := d) (hd := by omega) (hW := hW543)  (ln := ln) (e_ln := show G494 9 = ln from ((hF504.1 9 rfl).trans ((hF480.1 9 rfl).trans ((hF462.1 9 rfl).trans (e_ln))))) (li := li) (e_li := show G494 3 = li from ((hF504.1 3 rfl).trans ((hF480.1 3 rfl).trans ((hF462.1 3 rfl).trans (e_li))))) (fk := fk2_498) (e_fk := show G494 16 = fk2_498 from (e508)) (tk0 := tk2_501) (e_tk0 := show G494 11 = tk2_501 from (e511))    (p_0 := by omega)) (fun o V' hq => ?_)
          obtain ⟨G552, A553, ln2_554, fk2_555, rfl, rfl, hW556, hF557, e558, e559, q560⟩ := hq
          have hF561 := Fr_tr hF544 hF557 (Fr_sub (by decide)) (Fr_sub (by decide))
          have hP562 := Pf_f hP546 hF557 (by decide)
          have hS563 := Fx_f hS547 hF557 (by decide)
          have hV564 := Fx_f hV548 hF557 (by decide)
          have sf565 : ND A553 (nd) (31) (r496) (0) (0) (0) (0) (0) := ND_ag (by omega) (Ag_fr hF557 (by decide)) sf549
          have sf566 : NdM A553 (nd) (nd + 1) (sy) := NdM_f hF557 (by decide) sf550
          have ec567 : ecn A553 (G552 31) = ec2_502 := (ecn_f (hF557.2 15 rfl) (hF557.1 31 rfl)).trans ec551
          have bln2_554 : (0 : Int) ≤ ln2_554 ∧ ln2_554 ≤ 3000 := e558 ▸ hW556.1 9
          have bfk2_555 : (0 : Int) ≤ fk2_555 ∧ fk2_555 ≤ 6 := e559 ▸ hW556.1 16
          refine .inl ⟨rfl, ?_⟩
          rcases q560 with ⟨a568, a569, a570, a571, a572⟩ | ⟨a573, a574⟩
          · have _q : True := trivial
            exfalso
            omega
          · have _q : True := trivial
            refine jx_ld (pc' := 228) (l' := L493) (st' := [.ref 66]) rfl (jl_aloadn gL493_0) ?_
            refine jr_get (pc' := 231) (i := 38) (v := .ref 88) rfl rfl (by decide) rfl rfl ?_
            refine jx_ld (pc' := 232) (l' := L493) (st' := [.int (i32 (nd)), .ref 88]) rfl (jl_iloadn gL493_2) ?_
            refine jx_ld (pc' := 233) (l' := L493) (st' := [.ref 66, .int (i32 (nd)), .ref 88]) rfl (jl_aloadn gL493_0) ?_
            refine jx_vr (pc' := 236) (as := []) (st := [.int (i32 (nd)), .ref 88]) rfl rfl rfl rfl ⟨rfl, rfl, Nat.le_of_ble_eq_true rfl⟩ rfl rfl (c_bad (dd := d) (hd := by omega) (hW := hW556)  (fk := fk2_555) (e_fk := show G552 16 = fk2_555 from (e559))    ) (fun o V' hq => ?_)
            obtain ⟨r575, rfl, rfl, b576, q577⟩ := hq
            refine .inr ⟨_, rfl, ?_⟩
            rcases q577 with ⟨rfl, a578⟩ | ⟨rfl, a579⟩
            · have _q : True := trivial
              refine jx_if_eq (pc' := 239) (tg := 243) rfl rfl rfl (by decide) (by decide) (fun h580 => ?_) (fun h580 => ?_)
              · have _q := h580
                exact absurd h580 (by omega)
              · have _q := h580
                refine jx_ar (pc' := 240) (st' := [.int (i32 (0)), .int (i32 (nd)), .ref 88]) rfl rfl rfl rfl ?_
                refine jx_go (tg := 250) rfl rfl ?_
                refine jr_st (pc' := 251) (i := 21) (m := 7000) (z := nd) (y := 0) rfl (by decide) rfl (by decide) (by omega) (by omega) rfl ?_
                have hW582 : Wk G552 (uA A553 21 (nd).toNat (0)) := Wk_a hW556 (show (-2147483648 : Int) ≤ 0 by omega) (show 0 ≤ (2147483647 : Int) by omega)
                have hF583 := Fr_a (z := 0) (k := 21) (n := (nd).toNat) hF561 (by decide)
                obtain ⟨A581, eA581⟩ : ∃ q, q = uA A553 21 (nd).toNat (0) := ⟨_, rfl⟩
                rw [← eA581]
                rw [← eA581] at hW582 hF583
                have q584 : A581 21 (nd).toNat = 0 := by rw [eA581]; exact uA_eq
                have hP585 : Pf nd A A581 := eA581 ▸ Pf_a hP562 (z := nd) (by omega) (by omega)
                have hS586 : Fx sr (sy) A A581 := eA581 ▸ Fx_n hS563 rfl
                have hV587 : Fx [14] (vi) A A581 := eA581 ▸ Fx_n hV564 rfl
                have sf588 : ND A581 (nd) (31) (r496) (0) (0) (0) (0) (0) := ND_f eA581 sf565
                have sf589 : NdM A581 (nd) (nd + 1) (sy) := NdM_st eA581 (by decide) sf566
                have ec590 : ecn A581 (G552 31) = ec2_502 := (ecn_e ((congrFun eA581 15).trans (uA_ne (by decide)))).trans ec567
                refine jx_ld (pc' := 252) (l' := L493) (st' := [.int (i32 (nd))]) rfl (jl_iloadn gL493_2) ?_
                refine jx_rt (v := some (.int (i32 (nd)))) rfl rfl rfl rfl rfl rfl ?_
                exact ⟨_, _, _, ln2_554, at2_497, fk2_555, nd2_500, sy, na, vi, A 3 (ln2_554).toNat, ec2_502, rfl, rfl, hW582, hF583, hP585, hS586, hV587, by omega, (e558), ((hF557.1 10 rfl).trans (e507)), (e559), ((hF557.1 31 rfl).trans (e510)), ((hF557.1 19 rfl).trans ((hF504.1 19 rfl).trans ((hF480.1 19 rfl).trans ((hF462.1 19 rfl).trans (e_sy))))), ((hF557.1 28 rfl).trans ((hF504.1 28 rfl).trans ((hF480.1 28 rfl).trans ((hF462.1 28 rfl).trans (e_na))))), ((hF557.1 29 rfl).trans ((hF504.1 29 rfl).trans ((hF480.1 29 rfl).trans ((hF462.1 29 rfl).trans (e_vi))))), (congrFun (((congrFun eA581 3).trans (uA_ne (by decide))).trans ((hF557.2 3 rfl).trans (((congrFun eA542 3).trans (uA_ne (by decide))).trans ((hF504.2 3 rfl).trans ((hF480.2 3 rfl).trans (hF462.2 3 rfl)))))) _), ec590, by omega, by omega, by omega, by omega, by omega, by omega, by omega, by omega, by omega, by omega, by first | exact Or.inl (⟨by omega, by omega⟩)⟩
            · have _q : True := trivial
              exfalso
              omega
        · have _q : True := trivial
          refine jr_st (pc' := 223) (i := 17) (m := 7000) (z := nd) (y := r496) rfl (by decide) rfl (by decide) (by omega) (by omega) rfl ?_
          have hW592 : Wk G494 (uA A495 17 (nd).toNat (r496)) := Wk_a hW503 (show (-2147483648 : Int) ≤ r496 by omega) (show r496 ≤ (2147483647 : Int) by omega)
          have hF593 := Fr_a (z := r496) (k := 17) (n := (nd).toNat) hF520 (by decide)
          obtain ⟨A591, eA591⟩ : ∃ q, q = uA A495 17 (nd).toNat (r496) := ⟨_, rfl⟩
          rw [← eA591]
          rw [← eA591] at hW592 hF593
          have q594 : A591 17 (nd).toNat = r496 := by rw [eA591]; exact uA_eq
          have hP595 : Pf nd A A591 := eA591 ▸ Pf_a hP521 (z := nd) (by omega) (by omega)
          have hS596 : Fx sr (sy) A A591 := eA591 ▸ Fx_n hS522 rfl
          have hV597 : Fx [14] (vi) A A591 := eA591 ▸ Fx_n hV523 rfl
          have sf598 : ND A591 (nd) (31) (r496) (0) (0) (0) (0) (0) := ND_a eA591 sf524
          have sf599 : NdM A591 (nd) (nd + 1) (sy) := NdM_st eA591 (by decide) sf525
          have sf600 : wE A591 Vs sb (2 * 9 + 2) (r496) (nd2_477) (nd2_500) := wE_ag (by omega) (Sg_ne eA591 rfl) (Ag_st eA591 (by omega) (by omega)) a538
          have sf601 : NdM A591 (nd2_477) (nd2_500) (sy) := NdM_st eA591 (by decide) a540
          have ec602 : ecn A591 (G494 31) = ec2_502 := (ecn_e ((congrFun eA591 15).trans (uA_ne (by decide)))).trans e512
          refine jx_ld (pc' := 224) (l' := L493) (st' := [.ref 66]) rfl (jl_aloadn gL493_0) ?_
          refine jx_vr (pc' := 227) (as := []) (st := []) rfl rfl rfl rfl ⟨rfl, rfl, Nat.le_of_ble_eq_true rfl⟩ rfl rfl (c_endLine (dd := d) (hd := by omega) (hW := hW592)  (ln := ln) (e_ln := show G494 9 = ln from ((hF504.1 9 rfl).trans ((hF480.1 9 rfl).trans ((hF462.1 9 rfl).trans (e_ln))))) (li := li) (e_li := show G494 3 = li from ((hF504.1 3 rfl).trans ((hF480.1 3 rfl).trans ((hF462.1 3 rfl).trans (e_li))))) (fk := fk2_498) (e_fk := show G494 16 = fk2_498 from (e508)) (tk0 := tk2_501) (e_tk0 := show G494 11 = tk2_501 from (e511))    (p_0 := by omega)) (fun o V' hq => ?_)
          obtain ⟨G603, A604, ln2_605, fk2_606, rfl, rfl, hW607, hF608, e609, e610, q611⟩ := hq
          have hF612 := Fr_tr hF593 hF608 (Fr_sub (by decide)) (Fr_sub (by decide))
          have hP613 := Pf_f hP595 hF608 (by decide)
          have hS614 := Fx_f hS596 hF608 (by decide)
          have hV615 := Fx_f hV597 hF608 (by decide)
          have sf616 : ND A604 (nd) (31) (r496) (0) (0) (0) (0) (0) := ND_ag (by omega) (Ag_fr hF608 (by decide)) sf598
          have sf617 : NdM A604 (nd) (nd + 1) (sy) := NdM_f hF608 (by decide) sf599
          have sf618 : wE A604 Vs sb (2 * 9 + 2) (r496) (nd2_477) (nd2_500) := wE_ag (by omega) (Sg_fr hF608 (by decide)) (Ag_fr hF608 (by decide)) sf600
          have sf619 : NdM A604 (nd2_477) (nd2_500) (sy) := NdM_f hF608 (by decide) sf601
          have ec620 : ecn A604 (G603 31) = ec2_502 := (ecn_f (hF608.2 15 rfl) (hF608.1 31 rfl)).trans ec602
          have bln2_605 : (0 : Int) ≤ ln2_605 ∧ ln2_605 ≤ 3000 := e609 ▸ hW607.1 9
          have bfk2_606 : (0 : Int) ≤ fk2_606 ∧ fk2_606 ≤ 6 := e610 ▸ hW607.1 16
          refine .inl ⟨rfl, ?_⟩
          rcases q611 with ⟨a621, a622, a623, a624, a625⟩ | ⟨a626, a627⟩
          · have _q : True := trivial
            have b628 : (0 : Int) ≤ A 3 (ln2_605).toNat ∧ A 3 (ln2_605).toNat ≤ 3000 := hW.2 3 _
            have lt629 : ln2_605 < li → le < A 3 (ln2_605).toNat := fun hh => LT_nx (LT_ext (((hF608.1 3 rfl).trans ((hF504.1 3 rfl).trans ((hF480.1 3 rfl).trans (hF462.1 3 rfl))))) (((hF608.2 3 rfl).trans (((congrFun eA591 3).trans (uA_ne (by decide))).trans ((hF504.2 3 rfl).trans ((hF480.2 3 rfl).trans (hF462.2 3 rfl)))))) (((hF608.2 4 rfl).trans (((congrFun eA591 4).trans (uA_ne (by decide))).trans ((hF504.2 4 rfl).trans ((hF480.2 4 rfl).trans (hF462.2 4 rfl)))))) i_LT) (show G603 3 = li from ((hF608.1 3 rfl).trans ((hF504.1 3 rfl).trans ((hF480.1 3 rfl).trans ((hF462.1 3 rfl).trans (e_li)))))) (show A604 4 (ln).toNat = le from (congrFun ((hF608.2 4 rfl).trans (((congrFun eA591 4).trans (uA_ne (by decide))).trans ((hF504.2 4 rfl).trans ((hF480.2 4 rfl).trans (hF462.2 4 rfl))))) _).trans (e_le)) (show A604 3 (ln2_605).toNat = A 3 (ln2_605).toNat from (congrFun ((hF608.2 3 rfl).trans (((congrFun eA591 3).trans (uA_ne (by decide))).trans ((hF504.2 3 rfl).trans ((hF480.2 3 rfl).trans (hF462.2 3 rfl))))) _)) (show ln2_605 = ln + 1 by omega) (by omega) hh
            refine jx_ld (pc' := 228) (l' := L493) (st' := [.ref 66]) rfl (jl_aloadn gL493_0) ?_
            refine jr_get (pc' := 231) (i := 38) (v := .ref 88) rfl rfl (by decide) rfl rfl ?_
            refine jx_ld (pc' := 232) (l' := L493) (st' := [.int (i32 (nd)), .ref 88]) rfl (jl_iloadn gL493_2) ?_
            refine jx_ld (pc' := 233) (l' := L493) (st' := [.ref 66, .int (i32 (nd)), .ref 88]) rfl (jl_aloadn gL493_0) ?_
            refine jx_vr (pc' := 236) (as := []) (st := [.int (i32 (nd)), .ref 88]) rfl rfl rfl rfl ⟨rfl, rfl, Nat.le_of_ble_eq_true rfl⟩ rfl rfl (c_bad (dd := d) (hd := by omega) (hW := hW607)  (fk := fk2_606) (e_fk := show G603 16 = fk2_606 from (e610))    ) (fun o V' hq => ?_)
            obtain ⟨r630, rfl, rfl, b631, q632⟩ := hq
            refine .inr ⟨_, rfl, ?_⟩
            rcases q632 with ⟨rfl, a633⟩ | ⟨rfl, a634⟩
            · have _q : True := trivial
              exfalso
              omega
            · have _q : True := trivial
              refine jx_if_eq (pc' := 239) (tg := 243) rfl rfl rfl (by decide) (by decide) (fun h635 => ?_) (fun h635 => ?_)
              · have _q := h635
                refine jx_ld (pc' := 244) (l' := L493) (st' := [.ref 66, .int (i32 (nd)), .ref 88]) rfl (jl_aloadn gL493_0) ?_
                refine jx_ld (pc' := 245) (l' := L493) (st' := [.int (i32 (lv)), .ref 66, .int (i32 (nd)), .ref 88]) rfl (jl_iloadn gL493_1) ?_
                refine jx_ar (pc' := 246) (st' := [.int (i32 (1)), .int (i32 (lv)), .ref 66, .int (i32 (nd)), .ref 88]) rfl rfl rfl rfl ?_
                refine jx_add (pc' := 247) rfl rfl ?_
                refine jx_vr (pc' := 250) (as := [.int (i32 ((lv + 1)))]) (st := [.int (i32 (nd)), .ref 88]) rfl rfl rfl rfl ⟨rfl, rfl, Nat.le_of_ble_eq_true rfl⟩ rfl rfl (hP (dd := d) (hd := by omega) (hW := hW607) (lv := (lv + 1)) (at0 := at2_497) (ln := ln2_605) (e_ln := show G603 9 = ln2_605 from (e609)) (li := li) (e_li := show G603 3 = li from ((hF608.1 3 rfl).trans ((hF504.1 3 rfl).trans ((hF480.1 3 rfl).trans ((hF462.1 3 rfl).trans (e_li)))))) (fk := fk2_606) (e_fk := show G603 16 = fk2_606 from (e610)) (nd := nd2_500) (e_nd := show G603 31 = nd2_500 from ((hF608.1 31 rfl).trans (e510))) (sy := sy) (e_sy := show G603 19 = sy from ((hF608.1 19 rfl).trans ((hF504.1 19 rfl).trans ((hF480.1 19 rfl).trans ((hF462.1 19 rfl).trans (e_sy)))))) (na := na) (e_na := show G603 28 = na from ((hF608.1 28 rfl).trans ((hF504.1 28 rfl).trans ((hF480.1 28 rfl).trans ((hF462.1 28 rfl).trans (e_na)))))) (vi := vi) (e_vi := show G603 29 = vi from ((hF608.1 29 rfl).trans ((hF504.1 29 rfl).trans ((hF480.1 29 rfl).trans ((hF462.1 29 rfl).trans (e_vi)))))) (lf := A 3 (ln2_605).toNat) (e_lf := show A604 3 (ln2_605).toNat = A 3 (ln2_605).toNat from (congrFun ((hF608.2 3 rfl).trans (((congrFun eA591 3).trans (uA_ne (by decide))).trans ((hF504.2 3 rfl).trans ((hF480.2 3 rfl).trans (hF462.2 3 rfl))))) _)) (ac := at2_497) (e_ac := show G603 10 = at2_497 from ((hF608.1 10 rfl).trans (e507))) (ec := ec2_502) (e_ec := show ecn A604 (G603 31) = ec2_502 from ec620) (i_LT := (LT_ext (((hF608.1 3 rfl).trans ((hF504.1 3 rfl).trans ((hF480.1 3 rfl).trans (hF462.1 3 rfl))))) (((hF608.2 3 rfl).trans (((congrFun eA591 3).trans (uA_ne (by decide))).trans ((hF504.2 3 rfl).trans ((hF480.2 3 rfl).trans (hF462.2 3 rfl)))))) (((hF608.2 4 rfl).trans (((congrFun eA591 4).trans (uA_ne (by decide))).trans ((hF504.2 4 rfl).trans ((hF480.2 4 rfl).trans (hF462.2 4 rfl)))))) i_LT)) (i_SV := (SV_fx i_SV e_vi (show G603 29 = vi from ((hF608.1 29 rfl).trans ((hF504.1 29 rfl).trans ((hF480.1 29 rfl).trans ((hF462.1 29 rfl).trans (e_vi)))))) (by omega) hV615)) (i_PQ := (PQ_fx i_PQ hS614 (by omega) (hF612.2 29 rfl) (hF612.2 30 rfl))) (hvb := hvb) (h_lv := ⟨(by omega), (by omega)⟩)  (p_0 := by omega) (p_1 := by omega) (p_2 := by omega) (p_3 := by omega) (p_4 := by omega) (p_5 := by omega) (p_6 := by omega) (p_7 := by omega) (p_8 := by omega) (p_9 := by omega) (p_10 := by omega)) (fun o V' hq => ?_)
                obtain ⟨G636, A637, r638, ln2_639, at2_640, fk2_641, nd2_642, sy2_643, na2_644, vi2_645, lf2_646, ec2_647, rfl, rfl, hW648, hF649, hQ650, hQ651, hQ652, b653, e654, e655, e656, e657, e658, e659, e660, e661, e662, p663, p664, p665, p666, p667, p668, p669, p670, p671, q672⟩ := hq
                have hF673 := Fr_tr hF612 hF649 (Fr_sub (by decide)) (Fr_sub (by decide))
                have k674 : A637 17 (nd).toNat = r496 := (hQ650 17 _ rfl (by omega)).trans (show A604 17 (nd).toNat = r496 from (congrFun (hF608.2 17 rfl) _).trans (q594))
                have hP675 := Pf_tr hP613 hQ650 (by omega)
                have hS676 := Fx_tr hS614 hQ651 (by omega)
                have hV677 := Fx_tr hV615 hQ652 (by omega)
                have sf678 : ND A637 (nd) (31) (r496) (0) (0) (0) (0) (0) := ND_ag (by omega) (Ag_pf hQ650 (by omega)) sf616
                have sf679 : NdM A637 (nd) (nd + 1) (sy) := NdM_pf hQ650 (by omega) (by omega) sf617
                have sf680 : wE A637 Vs sb (2 * 9 + 2) (r496) (nd2_477) (nd2_500) := wE_ag (by omega) (Fx_su hQ651 (by omega)) (Ag_pf hQ650 (by omega)) sf618
                have sf681 : NdM A637 (nd2_477) (nd2_500) (sy) := NdM_pf hQ650 (by omega) (by omega) sf619
                have bln2_639 : (0 : Int) ≤ ln2_639 ∧ ln2_639 ≤ 3000 := e654 ▸ hW648.1 9
                have bat2_640 : (0 : Int) ≤ at2_640 ∧ at2_640 ≤ 3002 := e655 ▸ hW648.1 10
                have bfk2_641 : (0 : Int) ≤ fk2_641 ∧ fk2_641 ≤ 6 := e656 ▸ hW648.1 16
                have bnd2_642 : (0 : Int) ≤ nd2_642 ∧ nd2_642 ≤ 6999 := e657 ▸ hW648.1 31
                have bsy2_643 : (0 : Int) ≤ sy2_643 ∧ sy2_643 ≤ 202 := e658 ▸ hW648.1 19
                have bna2_644 : (0 : Int) ≤ na2_644 ∧ na2_644 ≤ 200 := e659 ▸ hW648.1 28
                have bvi2_645 : (0 : Int) ≤ vi2_645 ∧ vi2_645 ≤ 202 := e660 ▸ hW648.1 29
                have blf2_646 : (0 : Int) ≤ lf2_646 ∧ lf2_646 ≤ 3000 := e661 ▸ hW648.2 3 _
                refine .inr ⟨_, rfl, ?_⟩
                rcases q672 with ⟨a682, a683⟩ | ⟨a684, a685, a686, a687, a688, a689, a690, a691, a692, a693⟩
                · have _q : True := trivial
                  refine jr_st (pc' := 251) (i := 21) (m := 7000) (z := nd) (y := r638) rfl (by decide) rfl (by decide) (by omega) (by omega) rfl ?_
                  have hW695 : Wk G636 (uA A637 21 (nd).toNat (r638)) := Wk_a hW648 (show (-2147483648 : Int) ≤ r638 by omega) (show r638 ≤ (2147483647 : Int) by omega)
                  have hF696 := Fr_a (z := r638) (k := 21) (n := (nd).toNat) hF673 (by decide)
                  obtain ⟨A694, eA694⟩ : ∃ q, q = uA A637 21 (nd).toNat (r638) := ⟨_, rfl⟩
                  rw [← eA694]
                  rw [← eA694] at hW695 hF696
                  have q697 : A694 21 (nd).toNat = r638 := by rw [eA694]; exact uA_eq
                  have hP698 : Pf nd A A694 := eA694 ▸ Pf_a hP675 (z := nd) (by omega) (by omega)
                  have hS699 : Fx sr (sy) A A694 := eA694 ▸ Fx_n hS676 rfl
                  have hV700 : Fx [14] (vi) A A694 := eA694 ▸ Fx_n hV677 rfl
                  have sf701 : ND A694 (nd) (31) (r496) (0) (0) (0) (r638) (0) := ND_f eA694 sf678
                  have sf702 : NdM A694 (nd) (nd + 1) (sy) := NdM_st eA694 (by decide) sf679
                  have sf703 : wE A694 Vs sb (2 * 9 + 2) (r496) (nd2_477) (nd2_500) := wE_ag (by omega) (Sg_ne eA694 rfl) (Ag_st eA694 (by omega) (by omega)) sf680
                  have sf704 : NdM A694 (nd2_477) (nd2_500) (sy) := NdM_st eA694 (by decide) sf681
                  have ec705 : ecn A694 (G636 31) = ec2_647 := (ecn_e ((congrFun eA694 15).trans (uA_ne (by decide)))).trans e662
                  refine jx_ld (pc' := 252) (l' := L493) (st' := [.int (i32 (nd))]) rfl (jl_iloadn gL493_2) ?_
                  refine jx_rt (v := some (.int (i32 (nd)))) rfl rfl rfl rfl rfl rfl ?_
                  exact ⟨_, _, _, ln2_639, at2_640, fk2_641, nd2_642, sy2_643, na2_644, vi2_645, lf2_646, ec2_647, rfl, rfl, hW695, hF696, hP698, hS699, hV700, by omega, (e654), (e655), (e656), (e657), (e658), (e659), (e660), (congrFun ((congrFun eA694 3).trans (uA_ne (by decide))) _).trans (e661), ec705, by omega, by omega, by omega, by omega, by omega, by omega, by omega, by omega, by omega, by omega, by first | exact Or.inl (⟨by omega, by omega⟩)⟩
                · have _q : True := trivial
                  refine jr_st (pc' := 251) (i := 21) (m := 7000) (z := nd) (y := r638) rfl (by decide) rfl (by decide) (by omega) (by omega) rfl ?_
                  have hW707 : Wk G636 (uA A637 21 (nd).toNat (r638)) := Wk_a hW648 (show (-2147483648 : Int) ≤ r638 by omega) (show r638 ≤ (2147483647 : Int) by omega)
                  have hF708 := Fr_a (z := r638) (k := 21) (n := (nd).toNat) hF673 (by decide)
                  obtain ⟨A706, eA706⟩ : ∃ q, q = uA A637 21 (nd).toNat (r638) := ⟨_, rfl⟩
                  rw [← eA706]
                  rw [← eA706] at hW707 hF708
                  have q709 : A706 21 (nd).toNat = r638 := by rw [eA706]; exact uA_eq
                  have hP710 : Pf nd A A706 := eA706 ▸ Pf_a hP675 (z := nd) (by omega) (by omega)
                  have hS711 : Fx sr (sy) A A706 := eA706 ▸ Fx_n hS676 rfl
                  have hV712 : Fx [14] (vi) A A706 := eA706 ▸ Fx_n hV677 rfl
                  have sf713 : ND A706 (nd) (31) (r496) (0) (0) (0) (r638) (0) := ND_f eA706 sf678
                  have sf714 : NdM A706 (nd) (nd + 1) (sy) := NdM_st eA706 (by decide) sf679
                  have sf715 : wE A706 Vs sb (2 * 9 + 2) (r496) (nd2_477) (nd2_500) := wE_ag (by omega) (Sg_ne eA706 rfl) (Ag_st eA706 (by omega) (by omega)) sf680
                  have sf716 : NdM A706 (nd2_477) (nd2_500) (sy) := NdM_st eA706 (by decide) sf681
                  have sf717 : wP A706 (sy2_643) pb (k) (Vs) (r638) (nd2_500) (nd2_642) (sy) (sy2_643) := wP_ag (Sg_ne eA706 rfl) (Qg_ne eA706 rfl) (by omega) (by omega) (Ax_ag (Ag_st eA706 (by omega) (by omega))) a690
                  have sf718 : NX A706 (r638) := NX_r eA706 (by decide) a691
                  have sf719 : NdM A706 (nd2_500) (nd2_642) (sy) := NdM_st eA706 (by decide) a693
                  have ec720 : ecn A706 (G636 31) = ec2_647 := (ecn_e ((congrFun eA706 15).trans (uA_ne (by decide)))).trans e662
                  refine jx_ld (pc' := 252) (l' := L493) (st' := [.int (i32 (nd))]) rfl (jl_iloadn gL493_2) ?_
                  refine jx_rt (v := some (.int (i32 (nd)))) rfl rfl rfl rfl rfl rfl ?_
                  exact ⟨_, _, _, ln2_639, at2_640, fk2_641, nd2_642, sy2_643, na2_644, vi2_645, lf2_646, ec2_647, rfl, rfl, hW707, hF708, hP710, hS711, hV712, by omega, (e654), (e655), (e656), (e657), (e658), (e659), (e660), (congrFun ((congrFun eA706 3).trans (uA_ne (by decide))) _).trans (e661), ec720, by omega, by omega, by omega, by omega, by omega, by omega, by omega, by omega, by omega, by omega, by first | exact Or.inr ((⟨by omega, by omega, by omega, by omega, by omega, by omega, by omega, (wS_while (u := nd2_500) sf713 (by omega) (by omega) (wE_sb (by omega) (wE_mono (by omega) (by omega) (by omega) sf715)) (wP_eq sf717 (by omega) rfl (by omega) (by omega) (by omega) (by omega) (by omega) (by omega))), (NX_nd sf713), by omega, (NdO_w (NdO_app (sy := sy) (NdO_m (r := nd) sf714) (NdO_app (sy := sy) (NdO_m (r := nd) sf716) (NdO_m (r := nd) sf719) (by omega) (by omega) (by omega)) (by omega) (by omega) (by omega)) (by omega) (by omega) (by omega))⟩))⟩
              · have _q := h635
                exact absurd h635 (by omega)
          · have _q : True := trivial
            refine jx_ld (pc' := 228) (l' := L493) (st' := [.ref 66]) rfl (jl_aloadn gL493_0) ?_
            refine jr_get (pc' := 231) (i := 38) (v := .ref 88) rfl rfl (by decide) rfl rfl ?_
            refine jx_ld (pc' := 232) (l' := L493) (st' := [.int (i32 (nd)), .ref 88]) rfl (jl_iloadn gL493_2) ?_
            refine jx_ld (pc' := 233) (l' := L493) (st' := [.ref 66, .int (i32 (nd)), .ref 88]) rfl (jl_aloadn gL493_0) ?_
            refine jx_vr (pc' := 236) (as := []) (st := [.int (i32 (nd)), .ref 88]) rfl rfl rfl rfl ⟨rfl, rfl, Nat.le_of_ble_eq_true rfl⟩ rfl rfl (c_bad (dd := d) (hd := by omega) (hW := hW607)  (fk := fk2_606) (e_fk := show G603 16 = fk2_606 from (e610))    ) (fun o V' hq => ?_)
            obtain ⟨r721, rfl, rfl, b722, q723⟩ := hq
            refine .inr ⟨_, rfl, ?_⟩
            rcases q723 with ⟨rfl, a724⟩ | ⟨rfl, a725⟩
            · have _q : True := trivial
              refine jx_if_eq (pc' := 239) (tg := 243) rfl rfl rfl (by decide) (by decide) (fun h726 => ?_) (fun h726 => ?_)
              · have _q := h726
                exact absurd h726 (by omega)
              · have _q := h726
                refine jx_ar (pc' := 240) (st' := [.int (i32 (0)), .int (i32 (nd)), .ref 88]) rfl rfl rfl rfl ?_
                refine jx_go (tg := 250) rfl rfl ?_
                refine jr_st (pc' := 251) (i := 21) (m := 7000) (z := nd) (y := 0) rfl (by decide) rfl (by decide) (by omega) (by omega) rfl ?_
                have hW728 : Wk G603 (uA A604 21 (nd).toNat (0)) := Wk_a hW607 (show (-2147483648 : Int) ≤ 0 by omega) (show 0 ≤ (2147483647 : Int) by omega)
                have hF729 := Fr_a (z := 0) (k := 21) (n := (nd).toNat) hF612 (by decide)
                obtain ⟨A727, eA727⟩ : ∃ q, q = uA A604 21 (nd).toNat (0) := ⟨_, rfl⟩
                rw [← eA727]
                rw [← eA727] at hW728 hF729
                have q730 : A727 21 (nd).toNat = 0 := by rw [eA727]; exact uA_eq
                have hP731 : Pf nd A A727 := eA727 ▸ Pf_a hP613 (z := nd) (by omega) (by omega)
                have hS732 : Fx sr (sy) A A727 := eA727 ▸ Fx_n hS614 rfl
                have hV733 : Fx [14] (vi) A A727 := eA727 ▸ Fx_n hV615 rfl
                have sf734 : ND A727 (nd) (31) (r496) (0) (0) (0) (0) (0) := ND_f eA727 sf616
                have sf735 : NdM A727 (nd) (nd + 1) (sy) := NdM_st eA727 (by decide) sf617
                have sf736 : wE A727 Vs sb (2 * 9 + 2) (r496) (nd2_477) (nd2_500) := wE_ag (by omega) (Sg_ne eA727 rfl) (Ag_st eA727 (by omega) (by omega)) sf618
                have sf737 : NdM A727 (nd2_477) (nd2_500) (sy) := NdM_st eA727 (by decide) sf619
                have ec738 : ecn A727 (G603 31) = ec2_502 := (ecn_e ((congrFun eA727 15).trans (uA_ne (by decide)))).trans ec620
                refine jx_ld (pc' := 252) (l' := L493) (st' := [.int (i32 (nd))]) rfl (jl_iloadn gL493_2) ?_
                refine jx_rt (v := some (.int (i32 (nd)))) rfl rfl rfl rfl rfl rfl ?_
                exact ⟨_, _, _, ln2_605, at2_497, fk2_606, nd2_500, sy, na, vi, A 3 (ln2_605).toNat, ec2_502, rfl, rfl, hW728, hF729, hP731, hS732, hV733, by omega, (e609), ((hF608.1 10 rfl).trans (e507)), (e610), ((hF608.1 31 rfl).trans (e510)), ((hF608.1 19 rfl).trans ((hF504.1 19 rfl).trans ((hF480.1 19 rfl).trans ((hF462.1 19 rfl).trans (e_sy))))), ((hF608.1 28 rfl).trans ((hF504.1 28 rfl).trans ((hF480.1 28 rfl).trans ((hF462.1 28 rfl).trans (e_na))))), ((hF608.1 29 rfl).trans ((hF504.1 29 rfl).trans ((hF480.1 29 rfl).trans ((hF462.1 29 rfl).trans (e_vi))))), (congrFun (((congrFun eA727 3).trans (uA_ne (by decide))).trans ((hF608.2 3 rfl).trans (((congrFun eA591 3).trans (uA_ne (by decide))).trans ((hF504.2 3 rfl).trans ((hF480.2 3 rfl).trans (hF462.2 3 rfl)))))) _), ec738, by omega, by omega, by omega, by omega, by omega, by omega, by omega, by omega, by omega, by omega, by first | exact Or.inl (⟨by omega, by omega⟩)⟩
            · have _q : True := trivial
              exfalso
              omega
      · refine jx_swe (z := 7) (tg := 88) h8 rfl rfl rfl rfl ?_
        refine jx_ld (pc' := 89) (l' := L7) (st' := [.ref 66]) rfl (jl_aloadn gL7_0) ?_
        refine jx_ld (pc' := 90) (l' := L7) (st' := [.int (i32 (G 13)), .ref 66]) rfl (jl_iloadn gL7_3) ?_
        refine jx_ar (pc' := 92) (st' := [.int (i32 (7)), .int (i32 (G 13)), .ref 66]) rfl rfl rfl rfl ?_
        refine jx_icmp_ne (pc' := 95) (tg := 100) rfl rfl rfl (Int.le_trans (by decide : (-2147483648 : Int) ≤ -2147483648) b6.1) (Int.le_trans b6.2 (by decide : (2147483647 : Int) ≤ 2147483647)) (by decide) (by decide) (fun h739 => ?_) (fun h739 => ?_)
        · have _q := h739
          refine jx_ar (pc' := 102) (st' := [.int (i32 (21)), .ref 66]) rfl rfl rfl rfl ?_
          refine jx_ar (pc' := 103) (st' := [.int (i32 (0)), .int (i32 (21)), .ref 66]) rfl rfl rfl rfl ?_
          refine jx_ar (pc' := 104) (st' := [.int (i32 (0)), .int (i32 (0)), .int (i32 (21)), .ref 66]) rfl rfl rfl rfl ?_
          refine jx_ar (pc' := 105) (st' := [.int (i32 (0)), .int (i32 (0)), .int (i32 (0)), .int (i32 (21)), .ref 66]) rfl rfl rfl rfl ?_
          refine jx_ar (pc' := 106) (st' := [.int (i32 (0)), .int (i32 (0)), .int (i32 (0)), .int (i32 (0)), .int (i32 (21)), .ref 66]) rfl rfl rfl rfl ?_
          refine jx_vr (pc' := 109) (as := [.int (i32 (21)), .int (i32 (0)), .int (i32 (0)), .int (i32 (0)), .int (i32 (0))]) (st := []) rfl rfl rfl rfl ⟨rfl, rfl, Nat.le_of_ble_eq_true rfl⟩ rfl rfl (c_node_o (dd := d) (hd := by omega) (hW := hW) (kind := 21) (a := 0) (b := 0) (c := 0) (e := 0) (nd := nd) (e_nd := show G 31 = nd from (e_nd)) (ec := ec) (e_ec := show ecn A (G 31) = ec from e_ec) (sy := sy) (e_sy := show G 19 = sy from (e_sy))  (h_kind := ⟨(by decide), (by decide)⟩) (h_a := ⟨(by decide), (by decide)⟩) (h_b := ⟨(by decide), (by decide)⟩) (h_c := ⟨(by decide), (by decide)⟩) (h_e := ⟨(by decide), (by decide)⟩)  (p_0 := by omega) (p_1 := by omega) (p_2 := by omega)) (fun o V' hq => ?_)
          obtain ⟨G740, A741, nd2_742, ec2_743, rfl, rfl, hW744, hF745, hQ746, e747, e748, p749, p750, p751, p752, -⟩ := hq
          have hF754 := Fr_tr hF0 hF745 (Fr_sub (by decide)) (Fr_sub (by decide))
          have hP755 := Pf_tr hP0 hQ746 (by omega)
          have hS756 := Fx_f hS0 hF745 (by decide)
          have hV757 := Fx_f hV0 hF745 (by decide)
          have bnd2_742 : (0 : Int) ≤ nd2_742 ∧ nd2_742 ≤ 6999 := e747 ▸ hW744.1 31
          refine .inr ⟨_, rfl, ?_⟩
          refine jx_ld (pc' := 110) (l' := jSto1 L7 2 (.int (i32 (nd)))) (st' := []) rfl rfl ?_
          obtain ⟨L758, eL758⟩ : ∃ q, q = jSto1 L7 2 (.int (i32 (nd))) := ⟨_, rfl⟩
          rw [← eL758]
          have gL758_0 : jGet L758 0 = some (.ref 66) := eL758 ▸ jg_ne (by decide) gL7_0 rfl
          have gL758_1 : jGet L758 1 = some (.int (i32 (lv))) := eL758 ▸ jg_ne (by decide) gL7_1 rfl
          have gL758_3 : jGet L758 3 = some (.int (i32 (G 13))) := eL758 ▸ jg_ne (by decide) gL7_3 rfl
          have gL758_2 : jGet L758 2 = some (.int (i32 (nd))) := eL758 ▸ jg_eq
          refine jx_ld (pc' := 111) (l' := L758) (st' := [.ref 66]) rfl (jl_aloadn gL758_0) ?_
          refine jx_vr (pc' := 114) (as := []) (st := []) rfl rfl rfl rfl ⟨rfl, rfl, Nat.le_of_ble_eq_true rfl⟩ rfl rfl (c_next (dd := d) (hd := by omega) (hW := hW744)  (ln := ln) (e_ln := show G740 9 = ln from ((hF745.1 9 rfl).trans (e_ln))) (le := le) (e_le := show A741 4 (ln).toNat = le from (congrFun (hF745.2 4 rfl) _).trans (e_le)) (at0 := at0) (e_at0 := show G740 10 = at0 from ((hF745.1 10 rfl).trans (e_at0)))    (p_0 := by omega)) (fun o V' hq => ?_)
          obtain ⟨G759, A760, at2_761, tk2_762, rfl, rfl, hW763, hF764, e765, e766, p767, p768, p769, -⟩ := hq
          have hF771 := Fr_tr hF754 hF764 (Fr_sub (by decide)) (Fr_sub (by decide))
          have hP772 := Pf_f hP755 hF764 (by decide)
          have hS773 := Fx_f hS756 hF764 (by decide)
          have hV774 := Fx_f hV757 hF764 (by decide)
          have sf775 : ND A760 (nd) (21) (0) (0) (0) (0) (0) (0) := ND_ag (by omega) (Ag_fr hF764 (by decide)) p751
          have sf776 : NdM A760 (nd) (nd + 1) (sy) := NdM_f hF764 (by decide) p752
          have ec777 : ecn A760 (G759 31) = ec2_743 := (ecn_f (hF764.2 15 rfl) (hF764.1 31 rfl)).trans e748
          have bat2_761 : (0 : Int) ≤ at2_761 ∧ at2_761 ≤ 3002 := e765 ▸ hW763.1 10
          have ztk2_762 := tz_b tk2_762
          have btk2_762 : (0 : Int) ≤ tk2_762 ∧ tk2_762 ≤ 5 := e766 ▸ hW763.1 11
          refine .inl ⟨rfl, ?_⟩
          have pz778 : at0 + tz tk2_762 ≤ at2_761 := by omega
          refine jx_ld (pc' := 115) (l' := L758) (st' := [.ref 66]) rfl (jl_aloadn gL758_0) ?_
          refine jx_vr (pc' := 118) (as := []) (st := []) rfl rfl rfl rfl ⟨rfl, rfl, Nat.le_of_ble_eq_true rfl⟩ rfl rfl (c_endLine (dd := d) (hd := by omega) (hW := hW763)  (ln := ln) (e_ln := show G759 9 = ln from ((hF764.1 9 rfl).trans ((hF745.1 9 rfl).trans (e_ln)))) (li := li) (e_li := show G759 3 = li from ((hF764.1 3 rfl).trans ((hF745.1 3 rfl).trans (e_li)))) (fk := fk) (e_fk := show G759 16 = fk from ((hF764.1 16 rfl).trans ((hF745.1 16 rfl).trans (e_fk)))) (tk0 := tk2_762) (e_tk0 := show G759 11 = tk2_762 from (e766))    (p_0 := by omega)) (fun o V' hq => ?_)
          obtain ⟨G779, A780, ln2_781, fk2_782, rfl, rfl, hW783, hF784, e785, e786, q787⟩ := hq
          have hF788 := Fr_tr hF771 hF784 (Fr_sub (by decide)) (Fr_sub (by decide))
          have hP789 := Pf_f hP772 hF784 (by decide)
          have hS790 := Fx_f hS773 hF784 (by decide)
          have hV791 := Fx_f hV774 hF784 (by decide)
          have sf792 : ND A780 (nd) (21) (0) (0) (0) (0) (0) (0) := ND_ag (by omega) (Ag_fr hF784 (by decide)) sf775
          have sf793 : NdM A780 (nd) (nd + 1) (sy) := NdM_f hF784 (by decide) sf776
          have ec794 : ecn A780 (G779 31) = ec2_743 := (ecn_f (hF784.2 15 rfl) (hF784.1 31 rfl)).trans ec777
          have bln2_781 : (0 : Int) ≤ ln2_781 ∧ ln2_781 ≤ 3000 := e785 ▸ hW783.1 9
          have bfk2_782 : (0 : Int) ≤ fk2_782 ∧ fk2_782 ≤ 6 := e786 ▸ hW783.1 16
          refine .inl ⟨rfl, ?_⟩
          rcases q787 with ⟨a795, a796, a797, a798, a799⟩ | ⟨a800, a801⟩
          · have _q : True := trivial
            have b802 : (0 : Int) ≤ A 3 (ln2_781).toNat ∧ A 3 (ln2_781).toNat ≤ 3000 := hW.2 3 _
            have lt803 : ln2_781 < li → le < A 3 (ln2_781).toNat := fun hh => LT_nx (LT_ext (((hF784.1 3 rfl).trans ((hF764.1 3 rfl).trans (hF745.1 3 rfl)))) (((hF784.2 3 rfl).trans ((hF764.2 3 rfl).trans (hF745.2 3 rfl)))) (((hF784.2 4 rfl).trans ((hF764.2 4 rfl).trans (hF745.2 4 rfl)))) i_LT) (show G779 3 = li from ((hF784.1 3 rfl).trans ((hF764.1 3 rfl).trans ((hF745.1 3 rfl).trans (e_li))))) (show A780 4 (ln).toNat = le from (congrFun ((hF784.2 4 rfl).trans ((hF764.2 4 rfl).trans (hF745.2 4 rfl))) _).trans (e_le)) (show A780 3 (ln2_781).toNat = A 3 (ln2_781).toNat from (congrFun ((hF784.2 3 rfl).trans ((hF764.2 3 rfl).trans (hF745.2 3 rfl))) _)) (show ln2_781 = ln + 1 by omega) (by omega) hh
            refine jx_ld (pc' := 119) (l' := L758) (st' := [.int (i32 (nd))]) rfl (jl_iloadn gL758_2) ?_
            refine jx_rt (v := some (.int (i32 (nd)))) rfl rfl rfl rfl rfl rfl ?_
            exact ⟨_, _, _, ln2_781, at2_761, fk2_782, nd2_742, sy, na, vi, A 3 (ln2_781).toNat, ec2_743, rfl, rfl, hW783, hF788, hP789, hS790, hV791, by omega, (e785), ((hF784.1 10 rfl).trans (e765)), (e786), ((hF784.1 31 rfl).trans ((hF764.1 31 rfl).trans (e747))), ((hF784.1 19 rfl).trans ((hF764.1 19 rfl).trans ((hF745.1 19 rfl).trans (e_sy)))), ((hF784.1 28 rfl).trans ((hF764.1 28 rfl).trans ((hF745.1 28 rfl).trans (e_na)))), ((hF784.1 29 rfl).trans ((hF764.1 29 rfl).trans ((hF745.1 29 rfl).trans (e_vi)))), (congrFun ((hF784.2 3 rfl).trans ((hF764.2 3 rfl).trans (hF745.2 3 rfl))) _), ec794, by omega, by omega, by omega, by omega, by omega, by omega, by omega, by omega, by omega, by omega, by first | exact Or.inr ((⟨by omega, by omega, by omega, by omega, by omega, by omega, by omega, (wS_skip sf792 (by omega) (by omega)), (NX_nd sf792), by omega, (NdO_w (NdO_m (r := nd) sf793) (by omega) (by omega) (by omega))⟩))⟩
          · have _q : True := trivial
            refine jx_ld (pc' := 119) (l' := L758) (st' := [.int (i32 (nd))]) rfl (jl_iloadn gL758_2) ?_
            refine jx_rt (v := some (.int (i32 (nd)))) rfl rfl rfl rfl rfl rfl ?_
            exact ⟨_, _, _, ln2_781, at2_761, fk2_782, nd2_742, sy, na, vi, A 3 (ln2_781).toNat, ec2_743, rfl, rfl, hW783, hF788, hP789, hS790, hV791, by omega, (e785), ((hF784.1 10 rfl).trans (e765)), (e786), ((hF784.1 31 rfl).trans ((hF764.1 31 rfl).trans (e747))), ((hF784.1 19 rfl).trans ((hF764.1 19 rfl).trans ((hF745.1 19 rfl).trans (e_sy)))), ((hF784.1 28 rfl).trans ((hF764.1 28 rfl).trans ((hF745.1 28 rfl).trans (e_na)))), ((hF784.1 29 rfl).trans ((hF764.1 29 rfl).trans ((hF745.1 29 rfl).trans (e_vi)))), (congrFun ((hF784.2 3 rfl).trans ((hF764.2 3 rfl).trans (hF745.2 3 rfl))) _), ec794, by omega, by omega, by omega, by omega, by omega, by omega, by omega, by omega, by omega, by omega, by first | exact Or.inl (⟨by omega, by omega⟩)⟩
        · have _q := h739
          refine jx_ar (pc' := 97) (st' := [.int (i32 (20)), .ref 66]) rfl rfl rfl rfl ?_
          refine jx_go (tg := 102) rfl rfl ?_
          refine jx_ar (pc' := 103) (st' := [.int (i32 (0)), .int (i32 (20)), .ref 66]) rfl rfl rfl rfl ?_
          refine jx_ar (pc' := 104) (st' := [.int (i32 (0)), .int (i32 (0)), .int (i32 (20)), .ref 66]) rfl rfl rfl rfl ?_
          refine jx_ar (pc' := 105) (st' := [.int (i32 (0)), .int (i32 (0)), .int (i32 (0)), .int (i32 (20)), .ref 66]) rfl rfl rfl rfl ?_
          refine jx_ar (pc' := 106) (st' := [.int (i32 (0)), .int (i32 (0)), .int (i32 (0)), .int (i32 (0)), .int (i32 (20)), .ref 66]) rfl rfl rfl rfl ?_
          refine jx_vr (pc' := 109) (as := [.int (i32 (20)), .int (i32 (0)), .int (i32 (0)), .int (i32 (0)), .int (i32 (0))]) (st := []) rfl rfl rfl rfl ⟨rfl, rfl, Nat.le_of_ble_eq_true rfl⟩ rfl rfl (c_node_o (dd := d) (hd := by omega) (hW := hW) (kind := 20) (a := 0) (b := 0) (c := 0) (e := 0) (nd := nd) (e_nd := show G 31 = nd from (e_nd)) (ec := ec) (e_ec := show ecn A (G 31) = ec from e_ec) (sy := sy) (e_sy := show G 19 = sy from (e_sy))  (h_kind := ⟨(by decide), (by decide)⟩) (h_a := ⟨(by decide), (by decide)⟩) (h_b := ⟨(by decide), (by decide)⟩) (h_c := ⟨(by decide), (by decide)⟩) (h_e := ⟨(by decide), (by decide)⟩)  (p_0 := by omega) (p_1 := by omega) (p_2 := by omega)) (fun o V' hq => ?_)
          obtain ⟨G804, A805, nd2_806, ec2_807, rfl, rfl, hW808, hF809, hQ810, e811, e812, p813, p814, p815, p816, -⟩ := hq
          have hF818 := Fr_tr hF0 hF809 (Fr_sub (by decide)) (Fr_sub (by decide))
          have hP819 := Pf_tr hP0 hQ810 (by omega)
          have hS820 := Fx_f hS0 hF809 (by decide)
          have hV821 := Fx_f hV0 hF809 (by decide)
          have bnd2_806 : (0 : Int) ≤ nd2_806 ∧ nd2_806 ≤ 6999 := e811 ▸ hW808.1 31
          refine .inr ⟨_, rfl, ?_⟩
          refine jx_ld (pc' := 110) (l' := jSto1 L7 2 (.int (i32 (nd)))) (st' := []) rfl rfl ?_
          obtain ⟨L822, eL822⟩ : ∃ q, q = jSto1 L7 2 (.int (i32 (nd))) := ⟨_, rfl⟩
          rw [← eL822]
          have gL822_0 : jGet L822 0 = some (.ref 66) := eL822 ▸ jg_ne (by decide) gL7_0 rfl
          have gL822_1 : jGet L822 1 = some (.int (i32 (lv))) := eL822 ▸ jg_ne (by decide) gL7_1 rfl
          have gL822_3 : jGet L822 3 = some (.int (i32 (G 13))) := eL822 ▸ jg_ne (by decide) gL7_3 rfl
          have gL822_2 : jGet L822 2 = some (.int (i32 (nd))) := eL822 ▸ jg_eq
          refine jx_ld (pc' := 111) (l' := L822) (st' := [.ref 66]) rfl (jl_aloadn gL822_0) ?_
          refine jx_vr (pc' := 114) (as := []) (st := []) rfl rfl rfl rfl ⟨rfl, rfl, Nat.le_of_ble_eq_true rfl⟩ rfl rfl (c_next (dd := d) (hd := by omega) (hW := hW808)  (ln := ln) (e_ln := show G804 9 = ln from ((hF809.1 9 rfl).trans (e_ln))) (le := le) (e_le := show A805 4 (ln).toNat = le from (congrFun (hF809.2 4 rfl) _).trans (e_le)) (at0 := at0) (e_at0 := show G804 10 = at0 from ((hF809.1 10 rfl).trans (e_at0)))    (p_0 := by omega)) (fun o V' hq => ?_)
          obtain ⟨G823, A824, at2_825, tk2_826, rfl, rfl, hW827, hF828, e829, e830, p831, p832, p833, -⟩ := hq
          have hF835 := Fr_tr hF818 hF828 (Fr_sub (by decide)) (Fr_sub (by decide))
          have hP836 := Pf_f hP819 hF828 (by decide)
          have hS837 := Fx_f hS820 hF828 (by decide)
          have hV838 := Fx_f hV821 hF828 (by decide)
          have sf839 : ND A824 (nd) (20) (0) (0) (0) (0) (0) (0) := ND_ag (by omega) (Ag_fr hF828 (by decide)) p815
          have sf840 : NdM A824 (nd) (nd + 1) (sy) := NdM_f hF828 (by decide) p816
          have ec841 : ecn A824 (G823 31) = ec2_807 := (ecn_f (hF828.2 15 rfl) (hF828.1 31 rfl)).trans e812
          have bat2_825 : (0 : Int) ≤ at2_825 ∧ at2_825 ≤ 3002 := e829 ▸ hW827.1 10
          have ztk2_826 := tz_b tk2_826
          have btk2_826 : (0 : Int) ≤ tk2_826 ∧ tk2_826 ≤ 5 := e830 ▸ hW827.1 11
          refine .inl ⟨rfl, ?_⟩
          have pz842 : at0 + tz tk2_826 ≤ at2_825 := by omega
          refine jx_ld (pc' := 115) (l' := L822) (st' := [.ref 66]) rfl (jl_aloadn gL822_0) ?_
          refine jx_vr (pc' := 118) (as := []) (st := []) rfl rfl rfl rfl ⟨rfl, rfl, Nat.le_of_ble_eq_true rfl⟩ rfl rfl (c_endLine (dd := d) (hd := by omega) (hW := hW827)  (ln := ln) (e_ln := show G823 9 = ln from ((hF828.1 9 rfl).trans ((hF809.1 9 rfl).trans (e_ln)))) (li := li) (e_li := show G823 3 = li from ((hF828.1 3 rfl).trans ((hF809.1 3 rfl).trans (e_li)))) (fk := fk) (e_fk := show G823 16 = fk from ((hF828.1 16 rfl).trans ((hF809.1 16 rfl).trans (e_fk)))) (tk0 := tk2_826) (e_tk0 := show G823 11 = tk2_826 from (e830))    (p_0 := by omega)) (fun o V' hq => ?_)
          obtain ⟨G843, A844, ln2_845, fk2_846, rfl, rfl, hW847, hF848, e849, e850, q851⟩ := hq
          have hF852 := Fr_tr hF835 hF848 (Fr_sub (by decide)) (Fr_sub (by decide))
          have hP853 := Pf_f hP836 hF848 (by decide)
          have hS854 := Fx_f hS837 hF848 (by decide)
          have hV855 := Fx_f hV838 hF848 (by decide)
          have sf856 : ND A844 (nd) (20) (0) (0) (0) (0) (0) (0) := ND_ag (by omega) (Ag_fr hF848 (by decide)) sf839
          have sf857 : NdM A844 (nd) (nd + 1) (sy) := NdM_f hF848 (by decide) sf840
          have ec858 : ecn A844 (G843 31) = ec2_807 := (ecn_f (hF848.2 15 rfl) (hF848.1 31 rfl)).trans ec841
          have bln2_845 : (0 : Int) ≤ ln2_845 ∧ ln2_845 ≤ 3000 := e849 ▸ hW847.1 9
          have bfk2_846 : (0 : Int) ≤ fk2_846 ∧ fk2_846 ≤ 6 := e850 ▸ hW847.1 16
          refine .inl ⟨rfl, ?_⟩
          rcases q851 with ⟨a859, a860, a861, a862, a863⟩ | ⟨a864, a865⟩
          · have _q : True := trivial
            have b866 : (0 : Int) ≤ A 3 (ln2_845).toNat ∧ A 3 (ln2_845).toNat ≤ 3000 := hW.2 3 _
            have lt867 : ln2_845 < li → le < A 3 (ln2_845).toNat := fun hh => LT_nx (LT_ext (((hF848.1 3 rfl).trans ((hF828.1 3 rfl).trans (hF809.1 3 rfl)))) (((hF848.2 3 rfl).trans ((hF828.2 3 rfl).trans (hF809.2 3 rfl)))) (((hF848.2 4 rfl).trans ((hF828.2 4 rfl).trans (hF809.2 4 rfl)))) i_LT) (show G843 3 = li from ((hF848.1 3 rfl).trans ((hF828.1 3 rfl).trans ((hF809.1 3 rfl).trans (e_li))))) (show A844 4 (ln).toNat = le from (congrFun ((hF848.2 4 rfl).trans ((hF828.2 4 rfl).trans (hF809.2 4 rfl))) _).trans (e_le)) (show A844 3 (ln2_845).toNat = A 3 (ln2_845).toNat from (congrFun ((hF848.2 3 rfl).trans ((hF828.2 3 rfl).trans (hF809.2 3 rfl))) _)) (show ln2_845 = ln + 1 by omega) (by omega) hh
            refine jx_ld (pc' := 119) (l' := L822) (st' := [.int (i32 (nd))]) rfl (jl_iloadn gL822_2) ?_
            refine jx_rt (v := some (.int (i32 (nd)))) rfl rfl rfl rfl rfl rfl ?_
            exact ⟨_, _, _, ln2_845, at2_825, fk2_846, nd2_806, sy, na, vi, A 3 (ln2_845).toNat, ec2_807, rfl, rfl, hW847, hF852, hP853, hS854, hV855, by omega, (e849), ((hF848.1 10 rfl).trans (e829)), (e850), ((hF848.1 31 rfl).trans ((hF828.1 31 rfl).trans (e811))), ((hF848.1 19 rfl).trans ((hF828.1 19 rfl).trans ((hF809.1 19 rfl).trans (e_sy)))), ((hF848.1 28 rfl).trans ((hF828.1 28 rfl).trans ((hF809.1 28 rfl).trans (e_na)))), ((hF848.1 29 rfl).trans ((hF828.1 29 rfl).trans ((hF809.1 29 rfl).trans (e_vi)))), (congrFun ((hF848.2 3 rfl).trans ((hF828.2 3 rfl).trans (hF809.2 3 rfl))) _), ec858, by omega, by omega, by omega, by omega, by omega, by omega, by omega, by omega, by omega, by omega, by first | exact Or.inr ((⟨by omega, by omega, by omega, by omega, by omega, by omega, by omega, (wS_skip sf856 (by omega) (by omega)), (NX_nd sf856), by omega, (NdO_w (NdO_m (r := nd) sf857) (by omega) (by omega) (by omega))⟩))⟩
          · have _q : True := trivial
            refine jx_ld (pc' := 119) (l' := L822) (st' := [.int (i32 (nd))]) rfl (jl_iloadn gL822_2) ?_
            refine jx_rt (v := some (.int (i32 (nd)))) rfl rfl rfl rfl rfl rfl ?_
            exact ⟨_, _, _, ln2_845, at2_825, fk2_846, nd2_806, sy, na, vi, A 3 (ln2_845).toNat, ec2_807, rfl, rfl, hW847, hF852, hP853, hS854, hV855, by omega, (e849), ((hF848.1 10 rfl).trans (e829)), (e850), ((hF848.1 31 rfl).trans ((hF828.1 31 rfl).trans (e811))), ((hF848.1 19 rfl).trans ((hF828.1 19 rfl).trans ((hF809.1 19 rfl).trans (e_sy)))), ((hF848.1 28 rfl).trans ((hF828.1 28 rfl).trans ((hF809.1 28 rfl).trans (e_na)))), ((hF848.1 29 rfl).trans ((hF828.1 29 rfl).trans ((hF809.1 29 rfl).trans (e_vi)))), (congrFun ((hF848.2 3 rfl).trans ((hF828.2 3 rfl).trans (hF809.2 3 rfl))) _), ec858, by omega, by omega, by omega, by omega, by omega, by omega, by omega, by omega, by omega, by omega, by first | exact Or.inl (⟨by omega, by omega⟩)⟩
      · refine jx_swe (z := 8) (tg := 88) h8 rfl rfl rfl rfl ?_
        refine jx_ld (pc' := 89) (l' := L7) (st' := [.ref 66]) rfl (jl_aloadn gL7_0) ?_
        refine jx_ld (pc' := 90) (l' := L7) (st' := [.int (i32 (G 13)), .ref 66]) rfl (jl_iloadn gL7_3) ?_
        refine jx_ar (pc' := 92) (st' := [.int (i32 (7)), .int (i32 (G 13)), .ref 66]) rfl rfl rfl rfl ?_
        refine jx_icmp_ne (pc' := 95) (tg := 100) rfl rfl rfl (Int.le_trans (by decide : (-2147483648 : Int) ≤ -2147483648) b6.1) (Int.le_trans b6.2 (by decide : (2147483647 : Int) ≤ 2147483647)) (by decide) (by decide) (fun h868 => ?_) (fun h868 => ?_)
        · have _q := h868
          refine jx_ar (pc' := 102) (st' := [.int (i32 (21)), .ref 66]) rfl rfl rfl rfl ?_
          refine jx_ar (pc' := 103) (st' := [.int (i32 (0)), .int (i32 (21)), .ref 66]) rfl rfl rfl rfl ?_
          refine jx_ar (pc' := 104) (st' := [.int (i32 (0)), .int (i32 (0)), .int (i32 (21)), .ref 66]) rfl rfl rfl rfl ?_
          refine jx_ar (pc' := 105) (st' := [.int (i32 (0)), .int (i32 (0)), .int (i32 (0)), .int (i32 (21)), .ref 66]) rfl rfl rfl rfl ?_
          refine jx_ar (pc' := 106) (st' := [.int (i32 (0)), .int (i32 (0)), .int (i32 (0)), .int (i32 (0)), .int (i32 (21)), .ref 66]) rfl rfl rfl rfl ?_
          refine jx_vr (pc' := 109) (as := [.int (i32 (21)), .int (i32 (0)), .int (i32 (0)), .int (i32 (0)), .int (i32 (0))]) (st := []) rfl rfl rfl rfl ⟨rfl, rfl, Nat.le_of_ble_eq_true rfl⟩ rfl rfl (c_node_o (dd := d) (hd := by omega) (hW := hW) (kind := 21) (a := 0) (b := 0) (c := 0) (e := 0) (nd := nd) (e_nd := show G 31 = nd from (e_nd)) (ec := ec) (e_ec := show ecn A (G 31) = ec from e_ec) (sy := sy) (e_sy := show G 19 = sy from (e_sy))  (h_kind := ⟨(by decide), (by decide)⟩) (h_a := ⟨(by decide), (by decide)⟩) (h_b := ⟨(by decide), (by decide)⟩) (h_c := ⟨(by decide), (by decide)⟩) (h_e := ⟨(by decide), (by decide)⟩)  (p_0 := by omega) (p_1 := by omega) (p_2 := by omega)) (fun o V' hq => ?_)
          obtain ⟨G869, A870, nd2_871, ec2_872, rfl, rfl, hW873, hF874, hQ875, e876, e877, p878, p879, p880, p881, -⟩ := hq
          have hF883 := Fr_tr hF0 hF874 (Fr_sub (by decide)) (Fr_sub (by decide))
          have hP884 := Pf_tr hP0 hQ875 (by omega)
          have hS885 := Fx_f hS0 hF874 (by decide)
          have hV886 := Fx_f hV0 hF874 (by decide)
          have bnd2_871 : (0 : Int) ≤ nd2_871 ∧ nd2_871 ≤ 6999 := e876 ▸ hW873.1 31
          refine .inr ⟨_, rfl, ?_⟩
          refine jx_ld (pc' := 110) (l' := jSto1 L7 2 (.int (i32 (nd)))) (st' := []) rfl rfl ?_
          obtain ⟨L887, eL887⟩ : ∃ q, q = jSto1 L7 2 (.int (i32 (nd))) := ⟨_, rfl⟩
          rw [← eL887]
          have gL887_0 : jGet L887 0 = some (.ref 66) := eL887 ▸ jg_ne (by decide) gL7_0 rfl
          have gL887_1 : jGet L887 1 = some (.int (i32 (lv))) := eL887 ▸ jg_ne (by decide) gL7_1 rfl
          have gL887_3 : jGet L887 3 = some (.int (i32 (G 13))) := eL887 ▸ jg_ne (by decide) gL7_3 rfl
          have gL887_2 : jGet L887 2 = some (.int (i32 (nd))) := eL887 ▸ jg_eq
          refine jx_ld (pc' := 111) (l' := L887) (st' := [.ref 66]) rfl (jl_aloadn gL887_0) ?_
          refine jx_vr (pc' := 114) (as := []) (st := []) rfl rfl rfl rfl ⟨rfl, rfl, Nat.le_of_ble_eq_true rfl⟩ rfl rfl (c_next (dd := d) (hd := by omega) (hW := hW873)  (ln := ln) (e_ln := show G869 9 = ln from ((hF874.1 9 rfl).trans (e_ln))) (le := le) (e_le := show A870 4 (ln).toNat = le from (congrFun (hF874.2 4 rfl) _).trans (e_le)) (at0 := at0) (e_at0 := show G869 10 = at0 from ((hF874.1 10 rfl).trans (e_at0)))    (p_0 := by omega)) (fun o V' hq => ?_)
          obtain ⟨G888, A889, at2_890, tk2_891, rfl, rfl, hW892, hF893, e894, e895, p896, p897, p898, -⟩ := hq
          have hF900 := Fr_tr hF883 hF893 (Fr_sub (by decide)) (Fr_sub (by decide))
          have hP901 := Pf_f hP884 hF893 (by decide)
          have hS902 := Fx_f hS885 hF893 (by decide)
          have hV903 := Fx_f hV886 hF893 (by decide)
          have sf904 : ND A889 (nd) (21) (0) (0) (0) (0) (0) (0) := ND_ag (by omega) (Ag_fr hF893 (by decide)) p880
          have sf905 : NdM A889 (nd) (nd + 1) (sy) := NdM_f hF893 (by decide) p881
          have ec906 : ecn A889 (G888 31) = ec2_872 := (ecn_f (hF893.2 15 rfl) (hF893.1 31 rfl)).trans e877
          have bat2_890 : (0 : Int) ≤ at2_890 ∧ at2_890 ≤ 3002 := e894 ▸ hW892.1 10
          have ztk2_891 := tz_b tk2_891
          have btk2_891 : (0 : Int) ≤ tk2_891 ∧ tk2_891 ≤ 5 := e895 ▸ hW892.1 11
          refine .inl ⟨rfl, ?_⟩
          have pz907 : at0 + tz tk2_891 ≤ at2_890 := by omega
          refine jx_ld (pc' := 115) (l' := L887) (st' := [.ref 66]) rfl (jl_aloadn gL887_0) ?_
          refine jx_vr (pc' := 118) (as := []) (st := []) rfl rfl rfl rfl ⟨rfl, rfl, Nat.le_of_ble_eq_true rfl⟩ rfl rfl (c_endLine (dd := d) (hd := by omega) (hW := hW892)  (ln := ln) (e_ln := show G888 9 = ln from ((hF893.1 9 rfl).trans ((hF874.1 9 rfl).trans (e_ln)))) (li := li) (e_li := show G888 3 = li from ((hF893.1 3 rfl).trans ((hF874.1 3 rfl).trans (e_li)))) (fk := fk) (e_fk := show G888 16 = fk from ((hF893.1 16 rfl).trans ((hF874.1 16 rfl).trans (e_fk)))) (tk0 := tk2_891) (e_tk0 := show G888 11 = tk2_891 from (e895))    (p_0 := by omega)) (fun o V' hq => ?_)
          obtain ⟨G908, A909, ln2_910, fk2_911, rfl, rfl, hW912, hF913, e914, e915, q916⟩ := hq
          have hF917 := Fr_tr hF900 hF913 (Fr_sub (by decide)) (Fr_sub (by decide))
          have hP918 := Pf_f hP901 hF913 (by decide)
          have hS919 := Fx_f hS902 hF913 (by decide)
          have hV920 := Fx_f hV903 hF913 (by decide)
          have sf921 : ND A909 (nd) (21) (0) (0) (0) (0) (0) (0) := ND_ag (by omega) (Ag_fr hF913 (by decide)) sf904
          have sf922 : NdM A909 (nd) (nd + 1) (sy) := NdM_f hF913 (by decide) sf905
          have ec923 : ecn A909 (G908 31) = ec2_872 := (ecn_f (hF913.2 15 rfl) (hF913.1 31 rfl)).trans ec906
          have bln2_910 : (0 : Int) ≤ ln2_910 ∧ ln2_910 ≤ 3000 := e914 ▸ hW912.1 9
          have bfk2_911 : (0 : Int) ≤ fk2_911 ∧ fk2_911 ≤ 6 := e915 ▸ hW912.1 16
          refine .inl ⟨rfl, ?_⟩
          rcases q916 with ⟨a924, a925, a926, a927, a928⟩ | ⟨a929, a930⟩
          · have _q : True := trivial
            have b931 : (0 : Int) ≤ A 3 (ln2_910).toNat ∧ A 3 (ln2_910).toNat ≤ 3000 := hW.2 3 _
            have lt932 : ln2_910 < li → le < A 3 (ln2_910).toNat := fun hh => LT_nx (LT_ext (((hF913.1 3 rfl).trans ((hF893.1 3 rfl).trans (hF874.1 3 rfl)))) (((hF913.2 3 rfl).trans ((hF893.2 3 rfl).trans (hF874.2 3 rfl)))) (((hF913.2 4 rfl).trans ((hF893.2 4 rfl).trans (hF874.2 4 rfl)))) i_LT) (show G908 3 = li from ((hF913.1 3 rfl).trans ((hF893.1 3 rfl).trans ((hF874.1 3 rfl).trans (e_li))))) (show A909 4 (ln).toNat = le from (congrFun ((hF913.2 4 rfl).trans ((hF893.2 4 rfl).trans (hF874.2 4 rfl))) _).trans (e_le)) (show A909 3 (ln2_910).toNat = A 3 (ln2_910).toNat from (congrFun ((hF913.2 3 rfl).trans ((hF893.2 3 rfl).trans (hF874.2 3 rfl))) _)) (show ln2_910 = ln + 1 by omega) (by omega) hh
            refine jx_ld (pc' := 119) (l' := L887) (st' := [.int (i32 (nd))]) rfl (jl_iloadn gL887_2) ?_
            refine jx_rt (v := some (.int (i32 (nd)))) rfl rfl rfl rfl rfl rfl ?_
            exact ⟨_, _, _, ln2_910, at2_890, fk2_911, nd2_871, sy, na, vi, A 3 (ln2_910).toNat, ec2_872, rfl, rfl, hW912, hF917, hP918, hS919, hV920, by omega, (e914), ((hF913.1 10 rfl).trans (e894)), (e915), ((hF913.1 31 rfl).trans ((hF893.1 31 rfl).trans (e876))), ((hF913.1 19 rfl).trans ((hF893.1 19 rfl).trans ((hF874.1 19 rfl).trans (e_sy)))), ((hF913.1 28 rfl).trans ((hF893.1 28 rfl).trans ((hF874.1 28 rfl).trans (e_na)))), ((hF913.1 29 rfl).trans ((hF893.1 29 rfl).trans ((hF874.1 29 rfl).trans (e_vi)))), (congrFun ((hF913.2 3 rfl).trans ((hF893.2 3 rfl).trans (hF874.2 3 rfl))) _), ec923, by omega, by omega, by omega, by omega, by omega, by omega, by omega, by omega, by omega, by omega, by first | exact Or.inr ((⟨by omega, by omega, by omega, by omega, by omega, by omega, by omega, (wS_skip sf921 (by omega) (by omega)), (NX_nd sf921), by omega, (NdO_w (NdO_m (r := nd) sf922) (by omega) (by omega) (by omega))⟩))⟩
          · have _q : True := trivial
            refine jx_ld (pc' := 119) (l' := L887) (st' := [.int (i32 (nd))]) rfl (jl_iloadn gL887_2) ?_
            refine jx_rt (v := some (.int (i32 (nd)))) rfl rfl rfl rfl rfl rfl ?_
            exact ⟨_, _, _, ln2_910, at2_890, fk2_911, nd2_871, sy, na, vi, A 3 (ln2_910).toNat, ec2_872, rfl, rfl, hW912, hF917, hP918, hS919, hV920, by omega, (e914), ((hF913.1 10 rfl).trans (e894)), (e915), ((hF913.1 31 rfl).trans ((hF893.1 31 rfl).trans (e876))), ((hF913.1 19 rfl).trans ((hF893.1 19 rfl).trans ((hF874.1 19 rfl).trans (e_sy)))), ((hF913.1 28 rfl).trans ((hF893.1 28 rfl).trans ((hF874.1 28 rfl).trans (e_na)))), ((hF913.1 29 rfl).trans ((hF893.1 29 rfl).trans ((hF874.1 29 rfl).trans (e_vi)))), (congrFun ((hF913.2 3 rfl).trans ((hF893.2 3 rfl).trans (hF874.2 3 rfl))) _), ec923, by omega, by omega, by omega, by omega, by omega, by omega, by omega, by omega, by omega, by omega, by first | exact Or.inl (⟨by omega, by omega⟩)⟩
        · have _q := h868
          refine jx_ar (pc' := 97) (st' := [.int (i32 (20)), .ref 66]) rfl rfl rfl rfl ?_
          refine jx_go (tg := 102) rfl rfl ?_
          refine jx_ar (pc' := 103) (st' := [.int (i32 (0)), .int (i32 (20)), .ref 66]) rfl rfl rfl rfl ?_
          refine jx_ar (pc' := 104) (st' := [.int (i32 (0)), .int (i32 (0)), .int (i32 (20)), .ref 66]) rfl rfl rfl rfl ?_
          refine jx_ar (pc' := 105) (st' := [.int (i32 (0)), .int (i32 (0)), .int (i32 (0)), .int (i32 (20)), .ref 66]) rfl rfl rfl rfl ?_
          refine jx_ar (pc' := 106) (st' := [.int (i32 (0)), .int (i32 (0)), .int (i32 (0)), .int (i32 (0)), .int (i32 (20)), .ref 66]) rfl rfl rfl rfl ?_
          refine jx_vr (pc' := 109) (as := [.int (i32 (20)), .int (i32 (0)), .int (i32 (0)), .int (i32 (0)), .int (i32 (0))]) (st := []) rfl rfl rfl rfl ⟨rfl, rfl, Nat.le_of_ble_eq_true rfl⟩ rfl rfl (c_node_o (dd := d) (hd := by omega) (hW := hW) (kind := 20) (a := 0) (b := 0) (c := 0) (e := 0) (nd := nd) (e_nd := show G 31 = nd from (e_nd)) (ec := ec) (e_ec := show ecn A (G 31) = ec from e_ec) (sy := sy) (e_sy := show G 19 = sy from (e_sy))  (h_kind := ⟨(by decide), (by decide)⟩) (h_a := ⟨(by decide), (by decide)⟩) (h_b := ⟨(by decide), (by decide)⟩) (h_c := ⟨(by decide), (by decide)⟩) (h_e := ⟨(by decide), (by decide)⟩)  (p_0 := by omega) (p_1 := by omega) (p_2 := by omega)) (fun o V' hq => ?_)
          obtain ⟨G933, A934, nd2_935, ec2_936, rfl, rfl, hW937, hF938, hQ939, e940, e941, p942, p943, p944, p945, -⟩ := hq
          have hF947 := Fr_tr hF0 hF938 (Fr_sub (by decide)) (Fr_sub (by decide))
          have hP948 := Pf_tr hP0 hQ939 (by omega)
          have hS949 := Fx_f hS0 hF938 (by decide)
          have hV950 := Fx_f hV0 hF938 (by decide)
          have bnd2_935 : (0 : Int) ≤ nd2_935 ∧ nd2_935 ≤ 6999 := e940 ▸ hW937.1 31
          refine .inr ⟨_, rfl, ?_⟩
          refine jx_ld (pc' := 110) (l' := jSto1 L7 2 (.int (i32 (nd)))) (st' := []) rfl rfl ?_
          obtain ⟨L951, eL951⟩ : ∃ q, q = jSto1 L7 2 (.int (i32 (nd))) := ⟨_, rfl⟩
          rw [← eL951]
          have gL951_0 : jGet L951 0 = some (.ref 66) := eL951 ▸ jg_ne (by decide) gL7_0 rfl
          have gL951_1 : jGet L951 1 = some (.int (i32 (lv))) := eL951 ▸ jg_ne (by decide) gL7_1 rfl
          have gL951_3 : jGet L951 3 = some (.int (i32 (G 13))) := eL951 ▸ jg_ne (by decide) gL7_3 rfl
          have gL951_2 : jGet L951 2 = some (.int (i32 (nd))) := eL951 ▸ jg_eq
          refine jx_ld (pc' := 111) (l' := L951) (st' := [.ref 66]) rfl (jl_aloadn gL951_0) ?_
          refine jx_vr (pc' := 114) (as := []) (st := []) rfl rfl rfl rfl ⟨rfl, rfl, Nat.le_of_ble_eq_true rfl⟩ rfl rfl (c_next (dd := d) (hd := by omega) (hW := hW937)  (ln := ln) (e_ln := show G933 9 = ln from ((hF938.1 9 rfl).trans (e_ln))) (le := le) (e_le := show A934 4 (ln).toNat = le from (congrFun (hF938.2 4 rfl) _).trans (e_le)) (at0 := at0) (e_at0 := show G933 10 = at0 from ((hF938.1 10 rfl).trans (e_at0)))    (p_0 := by omega)) (fun o V' hq => ?_)
          obtain ⟨G952, A953, at2_954, tk2_955, rfl, rfl, hW956, hF957, e958, e959, p960, p961, p962, -⟩ := hq
          have hF964 := Fr_tr hF947 hF957 (Fr_sub (by decide)) (Fr_sub (by decide))
          have hP965 := Pf_f hP948 hF957 (by decide)
          have hS966 := Fx_f hS949 hF957 (by decide)
          have hV967 := Fx_f hV950 hF957 (by decide)
          have sf968 : ND A953 (nd) (20) (0) (0) (0) (0) (0) (0) := ND_ag (by omega) (Ag_fr hF957 (by decide)) p944
          have sf969 : NdM A953 (nd) (nd + 1) (sy) := NdM_f hF957 (by decide) p945
          have ec970 : ecn A953 (G952 31) = ec2_936 := (ecn_f (hF957.2 15 rfl) (hF957.1 31 rfl)).trans e941
          have bat2_954 : (0 : Int) ≤ at2_954 ∧ at2_954 ≤ 3002 := e958 ▸ hW956.1 10
          have ztk2_955 := tz_b tk2_955
          have btk2_955 : (0 : Int) ≤ tk2_955 ∧ tk2_955 ≤ 5 := e959 ▸ hW956.1 11
          refine .inl ⟨rfl, ?_⟩
          have pz971 : at0 + tz tk2_955 ≤ at2_954 := by omega
          refine jx_ld (pc' := 115) (l' := L951) (st' := [.ref 66]) rfl (jl_aloadn gL951_0) ?_
          refine jx_vr (pc' := 118) (as := []) (st := []) rfl rfl rfl rfl ⟨rfl, rfl, Nat.le_of_ble_eq_true rfl⟩ rfl rfl (c_endLine (dd := d) (hd := by omega) (hW := hW956)  (ln := ln) (e_ln := show G952 9 = ln from ((hF957.1 9 rfl).trans ((hF938.1 9 rfl).trans (e_ln)))) (li := li) (e_li := show G952 3 = li from ((hF957.1 3 rfl).trans ((hF938.1 3 rfl).trans (e_li)))) (fk := fk) (e_fk := show G952 16 = fk from ((hF957.1 16 rfl).trans ((hF938.1 16 rfl).trans (e_fk)))) (tk0 := tk2_955) (e_tk0 := show G952 11 = tk2_955 from (e959))    (p_0 := by omega)) (fun o V' hq => ?_)
          obtain ⟨G972, A973, ln2_974, fk2_975, rfl, rfl, hW976, hF977, e978, e979, q980⟩ := hq
          have hF981 := Fr_tr hF964 hF977 (Fr_sub (by decide)) (Fr_sub (by decide))
          have hP982 := Pf_f hP965 hF977 (by decide)
          have hS983 := Fx_f hS966 hF977 (by decide)
          have hV984 := Fx_f hV967 hF977 (by decide)
          have sf985 : ND A973 (nd) (20) (0) (0) (0) (0) (0) (0) := ND_ag (by omega) (Ag_fr hF977 (by decide)) sf968
          have sf986 : NdM A973 (nd) (nd + 1) (sy) := NdM_f hF977 (by decide) sf969
          have ec987 : ecn A973 (G972 31) = ec2_936 := (ecn_f (hF977.2 15 rfl) (hF977.1 31 rfl)).trans ec970
          have bln2_974 : (0 : Int) ≤ ln2_974 ∧ ln2_974 ≤ 3000 := e978 ▸ hW976.1 9
          have bfk2_975 : (0 : Int) ≤ fk2_975 ∧ fk2_975 ≤ 6 := e979 ▸ hW976.1 16
          refine .inl ⟨rfl, ?_⟩
          rcases q980 with ⟨a988, a989, a990, a991, a992⟩ | ⟨a993, a994⟩
          · have _q : True := trivial
            have b995 : (0 : Int) ≤ A 3 (ln2_974).toNat ∧ A 3 (ln2_974).toNat ≤ 3000 := hW.2 3 _
            have lt996 : ln2_974 < li → le < A 3 (ln2_974).toNat := fun hh => LT_nx (LT_ext (((hF977.1 3 rfl).trans ((hF957.1 3 rfl).trans (hF938.1 3 rfl)))) (((hF977.2 3 rfl).trans ((hF957.2 3 rfl).trans (hF938.2 3 rfl)))) (((hF977.2 4 rfl).trans ((hF957.2 4 rfl).trans (hF938.2 4 rfl)))) i_LT) (show G972 3 = li from ((hF977.1 3 rfl).trans ((hF957.1 3 rfl).trans ((hF938.1 3 rfl).trans (e_li))))) (show A973 4 (ln).toNat = le from (congrFun ((hF977.2 4 rfl).trans ((hF957.2 4 rfl).trans (hF938.2 4 rfl))) _).trans (e_le)) (show A973 3 (ln2_974).toNat = A 3 (ln2_974).toNat from (congrFun ((hF977.2 3 rfl).trans ((hF957.2 3 rfl).trans (hF938.2 3 rfl))) _)) (show ln2_974 = ln + 1 by omega) (by omega) hh
            refine jx_ld (pc' := 119) (l' := L951) (st' := [.int (i32 (nd))]) rfl (jl_iloadn gL951_2) ?_
            refine jx_rt (v := some (.int (i32 (nd)))) rfl rfl rfl rfl rfl rfl ?_
            exact ⟨_, _, _, ln2_974, at2_954, fk2_975, nd2_935, sy, na, vi, A 3 (ln2_974).toNat, ec2_936, rfl, rfl, hW976, hF981, hP982, hS983, hV984, by omega, (e978), ((hF977.1 10 rfl).trans (e958)), (e979), ((hF977.1 31 rfl).trans ((hF957.1 31 rfl).trans (e940))), ((hF977.1 19 rfl).trans ((hF957.1 19 rfl).trans ((hF938.1 19 rfl).trans (e_sy)))), ((hF977.1 28 rfl).trans ((hF957.1 28 rfl).trans ((hF938.1 28 rfl).trans (e_na)))), ((hF977.1 29 rfl).trans ((hF957.1 29 rfl).trans ((hF938.1 29 rfl).trans (e_vi)))), (congrFun ((hF977.2 3 rfl).trans ((hF957.2 3 rfl).trans (hF938.2 3 rfl))) _), ec987, by omega, by omega, by omega, by omega, by omega, by omega, by omega, by omega, by omega, by omega, by first | exact Or.inr ((⟨by omega, by omega, by omega, by omega, by omega, by omega, by omega, (wS_skip sf985 (by omega) (by omega)), (NX_nd sf985), by omega, (NdO_w (NdO_m (r := nd) sf986) (by omega) (by omega) (by omega))⟩))⟩
          · have _q : True := trivial
            refine jx_ld (pc' := 119) (l' := L951) (st' := [.int (i32 (nd))]) rfl (jl_iloadn gL951_2) ?_
            refine jx_rt (v := some (.int (i32 (nd)))) rfl rfl rfl rfl rfl rfl ?_
            exact ⟨_, _, _, ln2_974, at2_954, fk2_975, nd2_935, sy, na, vi, A 3 (ln2_974).toNat, ec2_936, rfl, rfl, hW976, hF981, hP982, hS983, hV984, by omega, (e978), ((hF977.1 10 rfl).trans (e958)), (e979), ((hF977.1 31 rfl).trans ((hF957.1 31 rfl).trans (e940))), ((hF977.1 19 rfl).trans ((hF957.1 19 rfl).trans ((hF938.1 19 rfl).trans (e_sy)))), ((hF977.1 28 rfl).trans ((hF957.1 28 rfl).trans ((hF938.1 28 rfl).trans (e_na)))), ((hF977.1 29 rfl).trans ((hF957.1 29 rfl).trans ((hF938.1 29 rfl).trans (e_vi)))), (congrFun ((hF977.2 3 rfl).trans ((hF957.2 3 rfl).trans (hF938.2 3 rfl))) _), ec987, by omega, by omega, by omega, by omega, by omega, by omega, by omega, by omega, by omega, by omega, by first | exact Or.inl (⟨by omega, by omega⟩)⟩
      · refine jx_swt (tg := 259) (by omega) (by omega) rfl h8 rfl ?_
        refine jx_ld (pc' := 260) (l' := L7) (st' := [.ref 66]) rfl (jl_aloadn gL7_0) ?_
        refine jx_ar (pc' := 261) (st' := [.int (i32 (1)), .ref 66]) rfl rfl rfl rfl ?_
        refine jx_ld (pc' := 262) (l' := L7) (st' := [.ref 66, .int (i32 (1)), .ref 66]) rfl (jl_aloadn gL7_0) ?_
        have b997 : (-3000 : Int) ≤ G 12 ∧ G 12 ≤ 3002 := hW.1 12
        refine jr_get (pc' := 265) (i := 12) (v := .int (i32 (G 12))) rfl rfl (by decide) rfl rfl ?_
        refine jx_vr (pc' := 268) (as := [.int (i32 (1)), .int (i32 (G 12))]) (st := []) rfl rfl rfl rfl ⟨rfl, rfl, Nat.le_of_ble_eq_true rfl⟩ rfl rfl (c_fail (dd := d) (hd := by omega) (hW := hW) (kind := 1) (place := G 12) (fk := fk) (e_fk := show G 16 = fk from (e_fk))  (h_kind := ⟨(by decide), (by decide)⟩) (h_place := ⟨(Int.le_trans (by decide : (-2147483648 : Int) ≤ -3000) b997.1), (Int.le_trans b997.2 (by decide : (3002 : Int) ≤ 2147483647))⟩)  (p_0 := by omega) (p_1 := by omega)) (fun o V' hq => ?_)
        obtain ⟨G998, A999, fk2_1000, rfl, rfl, hW1001, hF1002, e1003, p1004, -⟩ := hq
        have hF1006 := Fr_tr hF0 hF1002 (Fr_sub (by decide)) (Fr_sub (by decide))
        have hP1007 := Pf_f hP0 hF1002 (by decide)
        have hS1008 := Fx_f hS0 hF1002 (by decide)
        have hV1009 := Fx_f hV0 hF1002 (by decide)
        have ec1010 : ecn A999 (G998 31) = ec := (ecn_f (hF1002.2 15 rfl) (hF1002.1 31 rfl)).trans e_ec
        have bfk2_1000 : (0 : Int) ≤ fk2_1000 ∧ fk2_1000 ≤ 6 := e1003 ▸ hW1001.1 16
        refine .inl ⟨rfl, ?_⟩
        refine jx_ar (pc' := 269) (st' := [.int (i32 (0))]) rfl rfl rfl rfl ?_
        refine jx_rt (v := some (.int (i32 (0)))) rfl rfl rfl rfl rfl rfl ?_
        exact ⟨_, _, _, ln, at0, fk2_1000, nd, sy, na, vi, A 3 (ln).toNat, ec, rfl, rfl, hW1001, hF1006, hP1007, hS1008, hV1009, by omega, ((hF1002.1 9 rfl).trans (e_ln)), ((hF1002.1 10 rfl).trans (e_at0)), (e1003), ((hF1002.1 31 rfl).trans (e_nd)), ((hF1002.1 19 rfl).trans (e_sy)), ((hF1002.1 28 rfl).trans (e_na)), ((hF1002.1 29 rfl).trans (e_vi)), (congrFun (hF1002.2 3 rfl) _), ec1010, by omega, by omega, by omega, by omega, by omega, by omega, by omega, by omega, by omega, by omega, by first | exact Or.inl (⟨by omega, by omega⟩)⟩
    · have _q := h5
      refine jx_ld (pc' := 24) (l' := L1) (st' := [.ref 66]) rfl (jl_aloadn gL1_0) ?_
      refine jx_ar (pc' := 25) (st' := [.int (i32 (1)), .ref 66]) rfl rfl rfl rfl ?_
      refine jx_ld (pc' := 26) (l' := L1) (st' := [.ref 66, .int (i32 (1)), .ref 66]) rfl (jl_aloadn gL1_0) ?_
      have b1011 : (-3000 : Int) ≤ G 12 ∧ G 12 ≤ 3002 := hW.1 12
      refine jr_get (pc' := 29) (i := 12) (v := .int (i32 (G 12))) rfl rfl (by decide) rfl rfl ?_
      refine jx_vr (pc' := 32) (as := [.int (i32 (1)), .int (i32 (G 12))]) (st := []) rfl rfl rfl rfl ⟨rfl, rfl, Nat.le_of_ble_eq_true rfl⟩ rfl rfl (c_fail (dd := d) (hd := by omega) (hW := hW) (kind := 1) (place := G 12) (fk := fk) (e_fk := show G 16 = fk from (e_fk))  (h_kind := ⟨(by decide), (by decide)⟩) (h_place := ⟨(Int.le_trans (by decide : (-2147483648 : Int) ≤ -3000) b1011.1), (Int.le_trans b1011.2 (by decide : (3002 : Int) ≤ 2147483647))⟩)  (p_0 := by omega) (p_1 := by omega)) (fun o V' hq => ?_)
      obtain ⟨G1012, A1013, fk2_1014, rfl, rfl, hW1015, hF1016, e1017, p1018, -⟩ := hq
      have hF1020 := Fr_tr hF0 hF1016 (Fr_sub (by decide)) (Fr_sub (by decide))
      have hP1021 := Pf_f hP0 hF1016 (by decide)
      have hS1022 := Fx_f hS0 hF1016 (by decide)
      have hV1023 := Fx_f hV0 hF1016 (by decide)
      have ec1024 : ecn A1013 (G1012 31) = ec := (ecn_f (hF1016.2 15 rfl) (hF1016.1 31 rfl)).trans e_ec
      have bfk2_1014 : (0 : Int) ≤ fk2_1014 ∧ fk2_1014 ≤ 6 := e1017 ▸ hW1015.1 16
      refine .inl ⟨rfl, ?_⟩
      refine jx_ar (pc' := 33) (st' := [.int (i32 (0))]) rfl rfl rfl rfl ?_
      refine jx_rt (v := some (.int (i32 (0)))) rfl rfl rfl rfl rfl rfl ?_
      exact ⟨_, _, _, ln, at0, fk2_1014, nd, sy, na, vi, A 3 (ln).toNat, ec, rfl, rfl, hW1015, hF1020, hP1021, hS1022, hV1023, by omega, ((hF1016.1 9 rfl).trans (e_ln)), ((hF1016.1 10 rfl).trans (e_at0)), (e1017), ((hF1016.1 31 rfl).trans (e_nd)), ((hF1016.1 19 rfl).trans (e_sy)), ((hF1016.1 28 rfl).trans (e_na)), ((hF1016.1 29 rfl).trans (e_vi)), (congrFun (hF1016.2 3 rfl) _), ec1024, by omega, by omega, by omega, by omega, by omega, by omega, by omega, by omega, by omega, by omega, by first | exact Or.inl (⟨by omega, by omega⟩)⟩
  · have _q := h3
    refine jx_ld (pc' := 11) (l' := L1) (st' := [.ref 66]) rfl (jl_aloadn gL1_0) ?_
    refine jx_vr (pc' := 14) (as := []) (st := []) rfl rfl rfl rfl ⟨rfl, rfl, Nat.le_of_ble_eq_true rfl⟩ rfl rfl (c_readNamed_w (dd := d) (hd := by omega) (hW := hW)  (ln := ln) (e_ln := show G 9 = ln from (e_ln)) (le := le) (e_le := show A 4 (ln).toNat = le from (e_le)) (at0 := at0) (e_at0 := show G 10 = at0 from (e_at0)) (fk := fk) (e_fk := show G 16 = fk from (e_fk)) (op0 := op0) (e_op0 := show G 15 = op0 from (e_op0)) (nd := nd) (e_nd := show G 31 = nd from (e_nd)) (tk0 := tk0) (e_tk0 := show G 11 = tk0 from (e_tk0)) (li := li) (e_li := show G 3 = li from (e_li)) (ec := ec) (e_ec := show ecn A (G 31) = ec from e_ec) (sy := sy) (e_sy := show G 19 = sy from (e_sy)) (i_SV := (SV_fx i_SV e_vi (show G 29 = vi from (e_vi)) (by omega) hV0)) (i_PQ := (PQ_fx i_PQ hS0 (by omega) (hF0.2 29 rfl) (hF0.2 30 rfl)))   (p_0 := by omega) (p_1 := by omega) (p_2 := by omega) (p_3 := by omega) (p_4 := by omega) (p_5 := by omega)) (fun o V' hq => ?_)
    obtain ⟨G1025, A1026, r1027, at2_1028, fk2_1029, nd2_1030, ln2_1031, ec2_1032, rfl, rfl, hW1033, hF1034, hQ1035, b1036, e1037, e1038, e1039, e1040, e1041, p1042, p1043, p1044, p1045, p1046, q1047⟩ := hq
    have hF1048 := Fr_tr hF0 hF1034 (Fr_sub (by decide)) (Fr_sub (by decide))
    have hP1049 := Pf_tr hP0 hQ1035 (by omega)
    have hS1050 := Fx_f hS0 hF1034 (by decide)
    have hV1051 := Fx_f hV0 hF1034 (by decide)
    have bat2_1028 : (0 : Int) ≤ at2_1028 ∧ at2_1028 ≤ 3002 := e1037 ▸ hW1033.1 10
    have bfk2_1029 : (0 : Int) ≤ fk2_1029 ∧ fk2_1029 ≤ 6 := e1038 ▸ hW1033.1 16
    have bnd2_1030 : (0 : Int) ≤ nd2_1030 ∧ nd2_1030 ≤ 6999 := e1039 ▸ hW1033.1 31
    have bln2_1031 : (0 : Int) ≤ ln2_1031 ∧ ln2_1031 ≤ 3000 := e1040 ▸ hW1033.1 9
    refine .inr ⟨_, rfl, ?_⟩
    rcases q1047 with ⟨a1052, a1053, a1054⟩ | ⟨a1055, a1056, a1057, a1058, a1059, a1060, a1061, a1062, a1063⟩
    · have _q : True := trivial
      refine jx_rt (v := some (.int (i32 (r1027)))) rfl rfl rfl rfl rfl rfl ?_
      exact ⟨_, _, _, ln2_1031, at2_1028, fk2_1029, nd2_1030, sy, na, vi, A 3 (ln2_1031).toNat, ec2_1032, rfl, rfl, hW1033, hF1048, hP1049, hS1050, hV1051, by omega, (e1040), (e1037), (e1038), (e1039), ((hF1034.1 19 rfl).trans (e_sy)), ((hF1034.1 28 rfl).trans (e_na)), ((hF1034.1 29 rfl).trans (e_vi)), (congrFun (hF1034.2 3 rfl) _), e1041, by omega, by omega, by omega, by omega, by omega, by omega, by omega, by omega, by omega, by omega, by first | exact Or.inl (⟨by omega, by omega⟩)⟩
    · have _q : True := trivial
      have b1064 : (0 : Int) ≤ A 3 (ln2_1031).toNat ∧ A 3 (ln2_1031).toNat ≤ 3000 := hW.2 3 _
      have lt1065 : ln2_1031 < li → le < A 3 (ln2_1031).toNat := fun hh => LT_nx (LT_ext ((hF1034.1 3 rfl)) ((hF1034.2 3 rfl)) ((hF1034.2 4 rfl)) i_LT) (show G1025 3 = li from ((hF1034.1 3 rfl).trans (e_li))) (show A1026 4 (ln).toNat = le from (congrFun (hF1034.2 4 rfl) _).trans (e_le)) (show A1026 3 (ln2_1031).toNat = A 3 (ln2_1031).toNat from (congrFun (hF1034.2 3 rfl) _)) (show ln2_1031 = ln + 1 by omega) (by omega) hh
      refine jx_rt (v := some (.int (i32 (r1027)))) rfl rfl rfl rfl rfl rfl ?_
      exact ⟨_, _, _, ln2_1031, at2_1028, fk2_1029, nd2_1030, sy, na, vi, A 3 (ln2_1031).toNat, ec2_1032, rfl, rfl, hW1033, hF1048, hP1049, hS1050, hV1051, by omega, (e1040), (e1037), (e1038), (e1039), ((hF1034.1 19 rfl).trans (e_sy)), ((hF1034.1 28 rfl).trans (e_na)), ((hF1034.1 29 rfl).trans (e_vi)), (congrFun (hF1034.2 3 rfl) _), e1041, by omega, by omega, by omega, by omega, by omega, by omega, by omega, by omega, by omega, by omega, by first | exact Or.inr ((⟨by omega, by omega, by omega, by omega, by omega, by omega, by omega, (wS_leaf (wL_eq a1060 (by omega) (by omega)) (by omega) (by omega)), a1061, by omega, (NdO_w (NdO_m (r := r1027) a1063) (by omega) (by omega) (by omega))⟩))⟩
