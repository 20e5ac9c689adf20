set_option maxRecDepth 20000 in
set_option maxHeartbeats 4000000 in
theorem c_readAlt_w_at_24 {X : jX} {k : Nat} (hP : RPw X k) {d : Nat} {Vs : Nat → Prop} {sb pb : Int} (hvb : VB Vs sb) {c0 c1 : jC} {G : Nat → Int} {A : Nat → Nat → Int} {T : jH} {lv : Int} {ln li at0 fk nd sy na vi le op0 tk0 ec : Int} (hd : 8 * k + 82 ≤ d + 1) (hW : Wk G A) (e_ln : G 9 = ln) (e_li : G 3 = li) (e_at0 : G 10 = at0) (e_fk : G 16 = fk) (e_nd : G 31 = nd) (e_sy : G 19 = sy) (e_na : G 28 = na) (e_vi : G 29 = vi) (e_le : A 4 (ln).toNat = le) (e_op0 : G 15 = op0) (e_tk0 : G 11 = tk0) (e_ec : ecn A (G 31) = ec) (i_LT : LT G A) (i_SV : SV Vs sb G A) (i_PQ : PQ Vs sb pb G A) (h_lv : (-2147483648 : Int) ≤ lv ∧ lv ≤ 2147483647) (p_0 : 0 ≤ lv ∧ lv ≤ 15) (p_1 : 18 - lv ≤ ((k + 1 : Nat) : Int)) (p_2 : fk = 0) (p_3 : ln < li) (p_4 : at0 ≤ le) (p_5 : op0 = 0) (p_6 : nd ≤ 2 * at0 - tz tk0 + 30) (p_7 : sy ≤ na + 2) (p_8 : vi ≤ sy) (p_9 : sb = sy) (p_10 : 1 ≤ tk0) : ∀ (m : Nat) (L : jL) (Gx : Nat → Int) (Ax : Nat → Nat → Int) (n last many ln1 at1 fk1 nd1 sy1 na1 vi1 lf1 ec1 : Int), (li - ln1).toNat = m → jGet L 0 = some (.ref 66) → jGet L 1 = some (.int (i32 (lv))) → jGet L 2 = some (.int (i32 n)) → jGet L 3 = some (.int (i32 last)) → jGet L 4 = some (.int (i32 many)) → Wk Gx Ax → Fr [9, 10, 11, 12, 13, 14, 15, 16, 17, 18, 19, 28, 29, 31] [6, 7, 8, 9, 10, 11, 12, 14, 15, 16, 17, 18, 19, 20, 21, 22, 23, 24, 28] G A Gx Ax → Pf nd A Ax → Fx sr (sy) A Ax → Fx [14] (vi) A Ax → Gx 9 = ln1 → Gx 10 = at1 → Gx 16 = fk1 → Gx 31 = nd1 → Gx 19 = sy1 → Gx 28 = na1 → Gx 29 = vi1 → Ax 3 (ln1).toNat = lf1 → ecn Ax (Gx 31) = ec1 → ((-2147483648 : Int) ≤ n ∧ n ≤ 2147483647) → ((-2147483648 : Int) ≤ last ∧ last ≤ 2147483647) → ((-2147483648 : Int) ≤ many ∧ many ≤ 2147483647) → (fk1 = 0) → (at0 ≤ at1) → (nd ≤ n ∧ n ≤ 6998 ∧ n < nd1) → (sy ≤ sy1) → (sy1 ≤ na1 + 2) → (vi1 = vi) → (ln < ln1) → (ln1 ≤ li) → (nd1 - nd ≤ 2 * at1 - (2 * at0 - tz tk0)) → (at1 < lf1 ∨ li ≤ ln1) → (n = nd) → (0 ≤ last ∧ last ≤ 6998) → (last = 0 ∨ n < last) → (last < nd1) → (0 ≤ many ∧ many ≤ 8) → (ND Ax (n) (32) (0) (0) (0) (0) (Ax 21 (n).toNat) (0)) → (CL 2 Ax (sy1) pb (k) (Vs) (n) (last) (many) (n + 1) (nd1) (sy) (sy1)) → (nd + 5 * ec ≤ n ∧ n ≤ 6998 ∧ n < nd1) → (nd1 - nd + 5 * (ec1 - ec) ≤ 2 * at1 - (2 * at0 - tz tk0)) → wj X d jm302 (24, L, [], rV c0 c1 Gx Ax T) (fun o V' => ∃ (G' : Nat → Int) (A' : Nat → Nat → Int) (r : Int) (ln2 : Int) (at2 : Int) (fk2 : Int) (nd2 : Int) (sy2 : Int) (na2 : Int) (vi2 : Int) (lf2 : Int) (ec2 : Int), V' = rV c0 c1 G' A' T ∧ o = .inl (some (.int (i32 r))) ∧ Wk G' A' ∧ Fr [9, 10, 11, 12, 13, 14, 15, 16, 17, 18, 19, 28, 29, 31] [6, 7, 8, 9, 10, 11, 12, 14, 15, 16, 17, 18, 19, 20, 21, 22, 23, 24, 28] G A G' A' ∧ Pf nd A A' ∧ Fx sr (sy) A A' ∧ Fx [14] (vi) A A' ∧ ((-2147483648 : Int) ≤ r ∧ r ≤ 2147483647) ∧ G' 9 = ln2 ∧ G' 10 = at2 ∧ G' 16 = fk2 ∧ G' 31 = nd2 ∧ G' 19 = sy2 ∧ G' 28 = na2 ∧ G' 29 = vi2 ∧ A' 3 (ln2).toNat = lf2 ∧ ecn A' (G' 31) = ec2 ∧ (at0 ≤ at2) ∧ (nd ≤ nd2) ∧ (sy ≤ sy2) ∧ (sy2 ≤ na2 + 2) ∧ (vi ≤ vi2) ∧ (vi2 ≤ vi + 1) ∧ (0 ≤ r) ∧ (r ≤ 6999) ∧ (ln ≤ ln2) ∧ (ln2 ≤ li) ∧ (((1 ≤ fk2) ∧ (nd2 - nd ≤ 2 * at2 - (2 * at0 - tz tk0) + 14)) ∨ ((fk2 = 0) ∧ (vi2 = vi) ∧ (ln < ln2) ∧ (nd2 - nd ≤ 2 * at2 - (2 * at0 - tz tk0)) ∧ (at2 < lf2 ∨ li ≤ ln2) ∧ (nd ≤ r) ∧ (r < nd2) ∧ (wSt A' (sy2) pb (wP A' (sy2) pb (k)) (Vs) (r) (nd) (nd2) (sy) (sy2)) ∧ (NX A' (r)) ∧ (nd2 - nd + 5 * (ec2 - ec) ≤ 2 * at2 - (2 * at0 - tz tk0)) ∧ (nd + 5 * ec ≤ r)))) := by
  have hF0 : Fr [9, 10, 11, 12, 13, 14, 15, 16, 17, 18, 19, 28, 29, 31] [6, 7, 8, 9, 10, 11, 12, 14, 15, 16, 17, 18, 19, 20, 21, 22, 23, 24, 28] G A G A := Fr_rf
  have hP0 : Pf nd A A := Pf_rf
  have hS0 : Fx sr (sy) A A := Fx_rf
  have hV0 : Fx [14] (vi) A A := Fx_rf
  have b_ln : (0 : Int) ≤ ln ∧ ln ≤ 3000 := e_ln ▸ hW.1 9
  have b_li : (0 : Int) ≤ li ∧ li ≤ 3000 := e_li ▸ hW.1 3
  have b_at0 : (0 : Int) ≤ at0 ∧ at0 ≤ 3002 := e_at0 ▸ hW.1 10
  have b_fk : (0 : Int) ≤ fk ∧ fk ≤ 6 := e_fk ▸ hW.1 16
  have b_nd : (0 : Int) ≤ nd ∧ nd ≤ 6999 := e_nd ▸ hW.1 31
  have b_sy : (0 : Int) ≤ sy ∧ sy ≤ 202 := e_sy ▸ hW.1 19
  have b_na : (0 : Int) ≤ na ∧ na ≤ 200 := e_na ▸ hW.1 28
  have b_vi : (0 : Int) ≤ vi ∧ vi ≤ 202 := e_vi ▸ hW.1 29
  have b_le : (0 : Int) ≤ le ∧ le ≤ 3000 := e_le ▸ hW.2 4 _
  have b_op0 : (-2147483648 : Int) ≤ op0 ∧ op0 ≤ 2147483647 := e_op0 ▸ hW.1 15
  have z_tk0 := tz_f tk0
  have b_tk0 : (0 : Int) ≤ tk0 ∧ tk0 ≤ 5 := e_tk0 ▸ hW.1 11
  intro m
  induction m using Nat.strongRecOn with
  | ind m ih24 =>
    intro L Gx Ax n last many ln1 at1 fk1 nd1 sy1 na1 vi1 lf1 ec1 hm gL_0 gL_1 gL_2 gL_3 gL_4 hWx hFx hPx hSx hVx ex_ln1 ex_at1 ex_fk1 ex_nd1 ex_sy1 ex_na1 ex_vi1 ex_lf1 ex_ec1 rx_n rx_last rx_many iv_0 iv_1 iv_2 iv_3 iv_4 iv_5 iv_6 iv_7 iv_8 iv_9 iv_10 iv_11 iv_12 iv_13 iv_14 iv_15 iv_16 iv_17 iv_18
    have b_ln1 : (0 : Int) ≤ ln1 ∧ ln1 ≤ 3000 := ex_ln1 ▸ hWx.1 9
    have b_at1 : (0 : Int) ≤ at1 ∧ at1 ≤ 3002 := ex_at1 ▸ hWx.1 10
    have b_fk1 : (0 : Int) ≤ fk1 ∧ fk1 ≤ 6 := ex_fk1 ▸ hWx.1 16
    have b_nd1 : (0 : Int) ≤ nd1 ∧ nd1 ≤ 6999 := ex_nd1 ▸ hWx.1 31
    have b_sy1 : (0 : Int) ≤ sy1 ∧ sy1 ≤ 202 := ex_sy1 ▸ hWx.1 19
    have b_na1 : (0 : Int) ≤ na1 ∧ na1 ≤ 200 := ex_na1 ▸ hWx.1 28
    have b_vi1 : (0 : Int) ≤ vi1 ∧ vi1 ≤ 202 := ex_vi1 ▸ hWx.1 29
    refine jx_ld (pc' := 25) (l' := L) (st' := [.ref 66]) rfl (jl_aloadn gL_0) ?_
    refine jx_ld (pc' := 26) (l' := L) (st' := [.int (i32 (lv)), .ref 66]) rfl (jl_iloadn gL_1) ?_
    have b1 : (-1 : Int) ≤ A 5 (ln1).toNat ∧ A 5 (ln1).toNat ≤ 15 := hW.2 5 _
    refine jx_vr (pc' := 29) (as := [.int (i32 (lv))]) (st := []) rfl rfl rfl rfl ⟨rfl, rfl, Nat.le_of_ble_eq_true rfl⟩ rfl rfl (c_isBelow (dd := d) (hd := by omega) (hW := hWx) (lv := lv) (ln := ln1) (e_ln := show Gx 9 = ln1 from (ex_ln1)) (li := li) (e_li := show Gx 3 = li from ((hFx.1 3 rfl).trans (e_li))) (fk := fk1) (e_fk := show Gx 16 = fk1 from (ex_fk1)) (ll := A 5 (ln1).toNat) (e_ll := show Ax 5 (ln1).toNat = A 5 (ln1).toNat from (congrFun (hFx.2 5 rfl) _))  (h_lv := ⟨(Int.le_trans (by decide : (-2147483648 : Int) ≤ -2147483648) h_lv.1), (Int.le_trans h_lv.2 (by decide : (2147483647 : Int) ≤ 2147483647))⟩)  (p_0 := by omega)) (fun o V' hq => ?_)
    obtain ⟨G2, A3, r4, fk2_5, rfl, rfl, hW6, hF7, b8, e9, q10⟩ := hq
    have hF11 := Fr_tr hFx hF7 (Fr_sub (by decide)) (Fr_sub (by decide))
    have hP12 := Pf_f hPx hF7 (by decide)
    have hS13 := Fx_f hSx hF7 (by decide)
    have hV14 := Fx_f hVx hF7 (by decide)
    have sf15 : ND A3 (n) (32) (0) (0) (0) (0) (Ax 21 (n).toNat) (0) := ND_ag (by omega) (Ag_fr hF7 (by decide)) iv_15
    have sf16 : CL 2 A3 (sy1) pb (k) (Vs) (n) (last) (many) (n + 1) (nd1) (sy) (sy1) := CL_ag (by omega) (by omega) (Sg_fr hF7 (by decide)) (Qg_fr hF7 (by decide)) (Ag_fr hF7 (by decide)) (congrFun (hF7.2 21 rfl) _) iv_16
    have ec17 : ecn A3 (G2 31) = ec1 := (ecn_f (hF7.2 15 rfl) (hF7.1 31 rfl)).trans ex_ec1
    have bfk2_5 : (0 : Int) ≤ fk2_5 ∧ fk2_5 ≤ 6 := e9 ▸ hW6.1 16
    refine .inr ⟨_, rfl, ?_⟩
    rcases q10 with ⟨rfl, a18, a19, a20, a21⟩ | ⟨rfl, a22⟩ | ⟨rfl, a23, a24, a25⟩
    · have _q : True := trivial
      have b26 : (0 : Int) ≤ A 4 (ln1).toNat ∧ A 4 (ln1).toNat ≤ 3000 := hW.2 4 _
      have lt27 : lf1 < A 4 (ln1).toNat := LT_at (LT_ext (((hF7.1 3 rfl).trans (hFx.1 3 rfl))) (((hF7.2 3 rfl).trans (hFx.2 3 rfl))) (((hF7.2 4 rfl).trans (hFx.2 4 rfl))) i_LT) (show G2 3 = li from ((hF7.1 3 rfl).trans ((hFx.1 3 rfl).trans (e_li)))) (show A3 3 (ln1).toNat = lf1 from (congrFun (hF7.2 3 rfl) _).trans (ex_lf1)) (show A3 4 (ln1).toNat = A 4 (ln1).toNat from (congrFun ((hF7.2 4 rfl).trans (hFx.2 4 rfl)) _)) (by omega) (by omega)
      refine jx_if_eq (pc' := 32) (tg := 130) rfl rfl rfl (by decide) (by decide) (fun h28 => ?_) (fun h28 => ?_)
      · have _q := h28
        exact absurd h28 (by omega)
      · have _q := h28
        refine jx_ld (pc' := 34) (l' := L) (st' := [.int (i32 (many))]) rfl (jl_iload gL_4) ?_
        refine jx_ar (pc' := 36) (st' := [.int (i32 (8)), .int (i32 (many))]) rfl rfl rfl rfl ?_
        refine jx_icmp_ne (pc' := 39) (tg := 65) rfl rfl rfl (Int.le_trans (by decide : (-2147483648 : Int) ≤ -2147483648) rx_many.1) (Int.le_trans rx_many.2 (by decide : (2147483647 : Int) ≤ 2147483647)) (by decide) (by decide) (fun h29 => ?_) (fun h29 => ?_)
        · have _q := h29
          refine jx_ld (pc' := 66) (l' := L) (st' := [.ref 66]) rfl (jl_aloadn gL_0) ?_
          refine jx_vr (pc' := 69) (as := []) (st := []) rfl rfl rfl rfl ⟨rfl, rfl, Nat.le_of_ble_eq_true rfl⟩ rfl rfl (c_openLine (dd := d) (hd := by omega) (hW := hW6)  (ln := ln1) (e_ln := show G2 9 = ln1 from ((hF7.1 9 rfl).trans (ex_ln1))) (le := A 4 (ln1).toNat) (e_le := show A3 4 (ln1).toNat = A 4 (ln1).toNat from (congrFun ((hF7.2 4 rfl).trans (hFx.2 4 rfl)) _)) (lf := lf1) (e_lf := show A3 3 (ln1).toNat = lf1 from (congrFun (hF7.2 3 rfl) _).trans (ex_lf1))    (p_0 := by omega)) (fun o V' hq => ?_)
          obtain ⟨G30, A31, at2_32, tk2_33, op2_34, rfl, rfl, hW35, hF36, e37, e38, e39, p40, p41, p42, p43, -⟩ := hq
          have hF45 := Fr_tr hF11 hF36 (Fr_sub (by decide)) (Fr_sub (by decide))
          have hP46 := Pf_f hP12 hF36 (by decide)
          have hS47 := Fx_f hS13 hF36 (by decide)
          have hV48 := Fx_f hV14 hF36 (by decide)
          have sf49 : ND A31 (n) (32) (0) (0) (0) (0) (Ax 21 (n).toNat) (0) := ND_ag (by omega) (Ag_fr hF36 (by decide)) sf15
          have sf50 : CL 2 A31 (sy1) pb (k) (Vs) (n) (last) (many) (n + 1) (nd1) (sy) (sy1) := CL_ag (by omega) (by omega) (Sg_fr hF36 (by decide)) (Qg_fr hF36 (by decide)) (Ag_fr hF36 (by decide)) (congrFun (hF36.2 21 rfl) _) sf16
          have ec51 : ecn A31 (G30 31) = ec1 := (ecn_f (hF36.2 15 rfl) (hF36.1 31 rfl)).trans ec17
          have bat2_32 : (0 : Int) ≤ at2_32 ∧ at2_32 ≤ 3002 := e37 ▸ hW35.1 10
          have ztk2_33 := tz_b tk2_33
          have btk2_33 : (0 : Int) ≤ tk2_33 ∧ tk2_33 ≤ 5 := e38 ▸ hW35.1 11
          have bop2_34 : (-2147483648 : Int) ≤ op2_34 ∧ op2_34 ≤ 2147483647 := e39 ▸ hW35.1 15
          refine .inl ⟨rfl, ?_⟩
          refine jx_ld (pc' := 70) (l' := L) (st' := [.ref 66]) rfl (jl_aloadn gL_0) ?_
          refine jx_vr (pc' := 73) (as := []) (st := []) rfl rfl rfl rfl ⟨rfl, rfl, Nat.le_of_ble_eq_true rfl⟩ rfl rfl (c_readGuard_w (dd := d) (hd := by omega) (hW := hW35)  (ln := ln1) (e_ln := show G30 9 = ln1 from ((hF36.1 9 rfl).trans ((hF7.1 9 rfl).trans (ex_ln1)))) (le := A 4 (ln1).toNat) (e_le := show A31 4 (ln1).toNat = A 4 (ln1).toNat from (congrFun ((hF36.2 4 rfl).trans ((hF7.2 4 rfl).trans (hFx.2 4 rfl))) _)) (at0 := at2_32) (e_at0 := show G30 10 = at2_32 from (e37)) (fk := fk2_5) (e_fk := show G30 16 = fk2_5 from ((hF36.1 16 rfl).trans (e9))) (op0 := op2_34) (e_op0 := show G30 15 = op2_34 from (e39)) (nd := nd1) (e_nd := show G30 31 = nd1 from ((hF36.1 31 rfl).trans ((hF7.1 31 rfl).trans (ex_nd1)))) (tk0 := tk2_33) (e_tk0 := show G30 11 = tk2_33 from (e38)) (li := li) (e_li := show G30 3 = li from ((hF36.1 3 rfl).trans ((hF7.1 3 rfl).trans ((hFx.1 3 rfl).trans (e_li))))) (ec := ec1) (e_ec := show ecn A31 (G30 31) = ec1 from ec51) (i_SV := (SV_fx i_SV e_vi (show G30 29 = vi1 from ((hF36.1 29 rfl).trans ((hF7.1 29 rfl).trans (ex_vi1)))) (by omega) hV48))   (p_0 := by omega) (p_1 := by omega) (p_2 := by omega) (p_3 := by omega) (p_4 := by omega)) (fun o V' hq => ?_)
          obtain ⟨G52, A53, r54, at2_55, fk2_56, nd2_57, ln2_58, ec2_59, rfl, rfl, hW60, hF61, hQ62, b63, e64, e65, e66, e67, e68, p69, p70, p71, p72, p73, q74⟩ := hq
          have hF75 := Fr_tr hF45 hF61 (Fr_sub (by decide)) (Fr_sub (by decide))
          have hP76 := Pf_tr hP46 hQ62 (by omega)
          have hS77 := Fx_f hS47 hF61 (by decide)
          have hV78 := Fx_f hV48 hF61 (by decide)
          have sf79 : ND A53 (n) (32) (0) (0) (0) (0) (Ax 21 (n).toNat) (0) := ND_ag (by omega) (Ag_pf hQ62 (by omega)) sf49
          have sf80 : CL 2 A53 (sy1) pb (k) (Vs) (n) (last) (many) (n + 1) (nd1) (sy) (sy1) := CL_ag (by omega) (by omega) (Sg_fr hF61 (by decide)) (Qg_fr hF61 (by decide)) (Ag_pf hQ62 (by omega)) (hQ62 21 _ rfl (by omega)) sf50
          have bat2_55 : (0 : Int) ≤ at2_55 ∧ at2_55 ≤ 3002 := e64 ▸ hW60.1 10
          have bfk2_56 : (0 : Int) ≤ fk2_56 ∧ fk2_56 ≤ 6 := e65 ▸ hW60.1 16
          have bnd2_57 : (0 : Int) ≤ nd2_57 ∧ nd2_57 ≤ 6999 := e66 ▸ hW60.1 31
          have bln2_58 : (0 : Int) ≤ ln2_58 ∧ ln2_58 ≤ 3000 := e67 ▸ hW60.1 9
          refine .inr ⟨_, rfl, ?_⟩
          rcases q74 with ⟨a81, a82, a83⟩ | ⟨a84, a85, a86, a87, a88, a89, a90, a91, a92⟩
          · have _q : True := trivial
            refine jx_ld (pc' := 75) (l' := jSto1 L 5 (.int (i32 (r54)))) (st' := []) rfl rfl ?_
            obtain ⟨L93, eL93⟩ : ∃ q, q = jSto1 L 5 (.int (i32 (r54))) := ⟨_, rfl⟩
            rw [← eL93]
            have gL93_0 : jGet L93 0 = some (.ref 66) := eL93 ▸ jg_ne (by decide) gL_0 rfl
            have gL93_1 : jGet L93 1 = some (.int (i32 (lv))) := eL93 ▸ jg_ne (by decide) gL_1 rfl
            have gL93_2 : jGet L93 2 = some (.int (i32 (n))) := eL93 ▸ jg_ne (by decide) gL_2 rfl
            have gL93_3 : jGet L93 3 = some (.int (i32 (last))) := eL93 ▸ jg_ne (by decide) gL_3 rfl
            have gL93_4 : jGet L93 4 = some (.int (i32 (many))) := eL93 ▸ jg_ne (by decide) gL_4 rfl
            have gL93_5 : jGet L93 5 = some (.int (i32 (r54))) := eL93 ▸ jg_eq
            refine jx_ld (pc' := 76) (l' := L93) (st' := [.ref 66]) rfl (jl_aloadn gL93_0) ?_
            refine jx_vr (pc' := 79) (as := []) (st := []) rfl rfl rfl rfl ⟨rfl, rfl, Nat.le_of_ble_eq_true rfl⟩ rfl rfl (c_bad (dd := d) (hd := by omega) (hW := hW60)  (fk := fk2_56) (e_fk := show G52 16 = fk2_56 from (e65))    ) (fun o V' hq => ?_)
            obtain ⟨r94, rfl, rfl, b95, q96⟩ := hq
            refine .inr ⟨_, rfl, ?_⟩
            rcases q96 with ⟨rfl, a97⟩ | ⟨rfl, a98⟩
            · have _q : True := trivial
              refine jx_if_eq (pc' := 82) (tg := 86) rfl rfl rfl (by decide) (by decide) (fun h99 => ?_) (fun h99 => ?_)
              · have _q := h99
                exact absurd h99 (by omega)
              · have _q := h99
                refine jx_ar (pc' := 83) (st' := [.int (i32 (0))]) rfl rfl rfl rfl ?_
                refine jx_go (tg := 93) rfl rfl ?_
                refine jx_ld (pc' := 95) (l' := jSto1 L93 6 (.int (i32 (0)))) (st' := []) rfl rfl ?_
                obtain ⟨L100, eL100⟩ : ∃ q, q = jSto1 L93 6 (.int (i32 (0))) := ⟨_, rfl⟩
                rw [← eL100]
                have gL100_0 : jGet L100 0 = some (.ref 66) := eL100 ▸ jg_ne (by decide) gL93_0 rfl
                have gL100_1 : jGet L100 1 = some (.int (i32 (lv))) := eL100 ▸ jg_ne (by decide) gL93_1 rfl
                have gL100_2 : jGet L100 2 = some (.int (i32 (n))) := eL100 ▸ jg_ne (by decide) gL93_2 rfl
                have gL100_3 : jGet L100 3 = some (.int (i32 (last))) := eL100 ▸ jg_ne (by decide) gL93_3 rfl
                have gL100_4 : jGet L100 4 = some (.int (i32 (many))) := eL100 ▸ jg_ne (by decide) gL93_4 rfl
                have gL100_5 : jGet L100 5 = some (.int (i32 (r54))) := eL100 ▸ jg_ne (by decide) gL93_5 rfl
                have gL100_6 : jGet L100 6 = some (.int (i32 (0))) := eL100 ▸ jg_eq
                refine jx_ld (pc' := 96) (l' := L100) (st' := [.ref 66]) rfl (jl_aloadn gL100_0) ?_
                refine jx_vr (pc' := 99) (as := []) (st := []) rfl rfl rfl rfl ⟨rfl, rfl, Nat.le_of_ble_eq_true rfl⟩ rfl rfl (c_bad (dd := d) (hd := by omega) (hW := hW60)  (fk := fk2_56) (e_fk := show G52 16 = fk2_56 from (e65))    ) (fun o V' hq => ?_)
                obtain ⟨r101, rfl, rfl, b102, q103⟩ := hq
                refine .inr ⟨_, rfl, ?_⟩
                rcases q103 with ⟨rfl, a104⟩ | ⟨rfl, a105⟩
                · have _q : True := trivial
                  refine jx_if_eq (pc' := 102) (tg := 104) rfl rfl rfl (by decide) (by decide) (fun h106 => ?_) (fun h106 => ?_)
                  · have _q := h106
                    exact absurd h106 (by omega)
                  · have _q := h106
                    refine jx_ar (pc' := 103) (st' := [.int (i32 (0))]) rfl rfl rfl rfl ?_
                    refine jx_rt (v := some (.int (i32 (0)))) rfl rfl rfl rfl rfl rfl ?_
                    exact ⟨_, _, _, ln2_58, at2_55, fk2_56, nd2_57, sy1, na1, vi1, A 3 (ln2_58).toNat, ec2_59, rfl, rfl, hW60, hF75, hP76, hS77, hV78, by omega, (e67), (e64), (e65), (e66), ((hF61.1 19 rfl).trans ((hF36.1 19 rfl).trans ((hF7.1 19 rfl).trans (ex_sy1)))), ((hF61.1 28 rfl).trans ((hF36.1 28 rfl).trans ((hF7.1 28 rfl).trans (ex_na1)))), ((hF61.1 29 rfl).trans ((hF36.1 29 rfl).trans ((hF7.1 29 rfl).trans (ex_vi1)))), (congrFun ((hF61.2 3 rfl).trans ((hF36.2 3 rfl).trans ((hF7.2 3 rfl).trans (hFx.2 3 rfl)))) _), e68, by omega, by omega, by omega, by omega, by omega, by omega, by omega, by omega, by omega, by omega, by first | exact Or.inl (⟨by omega, by omega⟩)⟩
                · have _q : True := trivial
                  exfalso
                  omega
            · have _q : True := trivial
              exfalso
              omega
          · have _q : True := trivial
            have b107 : (0 : Int) ≤ A 3 (ln2_58).toNat ∧ A 3 (ln2_58).toNat ≤ 3000 := hW.2 3 _
            have lt108 : ln2_58 < li → A 4 (ln1).toNat < A 3 (ln2_58).toNat := fun hh => LT_nx (LT_ext (((hF61.1 3 rfl).trans ((hF36.1 3 rfl).trans ((hF7.1 3 rfl).trans (hFx.1 3 rfl))))) (((hF61.2 3 rfl).trans ((hF36.2 3 rfl).trans ((hF7.2 3 rfl).trans (hFx.2 3 rfl))))) (((hF61.2 4 rfl).trans ((hF36.2 4 rfl).trans ((hF7.2 4 rfl).trans (hFx.2 4 rfl))))) i_LT) (show G52 3 = li from ((hF61.1 3 rfl).trans ((hF36.1 3 rfl).trans ((hF7.1 3 rfl).trans ((hFx.1 3 rfl).trans (e_li)))))) (show A53 4 (ln1).toNat = A 4 (ln1).toNat from (congrFun ((hF61.2 4 rfl).trans ((hF36.2 4 rfl).trans ((hF7.2 4 rfl).trans (hFx.2 4 rfl)))) _)) (show A53 3 (ln2_58).toNat = A 3 (ln2_58).toNat from (congrFun ((hF61.2 3 rfl).trans ((hF36.2 3 rfl).trans ((hF7.2 3 rfl).trans (hFx.2 3 rfl)))) _)) (show ln2_58 = ln1 + 1 by omega) (by omega) hh
            refine jx_ld (pc' := 75) (l' := jSto1 L 5 (.int (i32 (r54)))) (st' := []) rfl rfl ?_
            obtain ⟨L109, eL109⟩ : ∃ q, q = jSto1 L 5 (.int (i32 (r54))) := ⟨_, rfl⟩
            rw [← eL109]
            have gL109_0 : jGet L109 0 = some (.ref 66) := eL109 ▸ jg_ne (by decide) gL_0 rfl
            have gL109_1 : jGet L109 1 = some (.int (i32 (lv))) := eL109 ▸ jg_ne (by decide) gL_1 rfl
            have gL109_2 : jGet L109 2 = some (.int (i32 (n))) := eL109 ▸ jg_ne (by decide) gL_2 rfl
            have gL109_3 : jGet L109 3 = some (.int (i32 (last))) := eL109 ▸ jg_ne (by decide) gL_3 rfl
            have gL109_4 : jGet L109 4 = some (.int (i32 (many))) := eL109 ▸ jg_ne (by decide) gL_4 rfl
            have gL109_5 : jGet L109 5 = some (.int (i32 (r54))) := eL109 ▸ jg_eq
            refine jx_ld (pc' := 76) (l' := L109) (st' := [.ref 66]) rfl (jl_aloadn gL109_0) ?_
            refine jx_vr (pc' := 79) (as := []) (st := []) rfl rfl rfl rfl ⟨rfl, rfl, Nat.le_of_ble_eq_true rfl⟩ rfl rfl (c_bad (dd := d) (hd := by omega) (hW := hW60)  (fk := fk2_56) (e_fk := show G52 16 = fk2_56 from (e65))    ) (fun o V' hq => ?_)
            obtain ⟨r110, rfl, rfl, b111, q112⟩ := hq
            refine .inr ⟨_, rfl, ?_⟩
            rcases q112 with ⟨rfl, a113⟩ | ⟨rfl, a114⟩
            · have _q : True := trivial
              exfalso
              omega
            · have _q : True := trivial
              refine jx_if_eq (pc' := 82) (tg := 86) rfl rfl rfl (by decide) (by decide) (fun h115 => ?_) (fun h115 => ?_)
              · have _q := h115
                refine jx_ld (pc' := 87) (l' := L109) (st' := [.ref 66]) rfl (jl_aloadn gL109_0) ?_
                refine jx_ld (pc' := 88) (l' := L109) (st' := [.int (i32 (lv)), .ref 66]) rfl (jl_iloadn gL109_1) ?_
                refine jx_ar (pc' := 89) (st' := [.int (i32 (2)), .int (i32 (lv)), .ref 66]) rfl rfl rfl rfl ?_
                refine jx_add (pc' := 90) rfl rfl ?_
                refine jx_vr (pc' := 93) (as := [.int (i32 ((lv + 2)))]) (st := []) rfl rfl rfl rfl ⟨rfl, rfl, Nat.le_of_ble_eq_true rfl⟩ rfl rfl (hP (dd := d) (hd := by omega) (hW := hW60) (lv := (lv + 2)) (at0 := at2_55) (ln := ln2_58) (e_ln := show G52 9 = ln2_58 from (e67)) (li := li) (e_li := show G52 3 = li from ((hF61.1 3 rfl).trans ((hF36.1 3 rfl).trans ((hF7.1 3 rfl).trans ((hFx.1 3 rfl).trans (e_li)))))) (fk := fk2_56) (e_fk := show G52 16 = fk2_56 from (e65)) (nd := nd2_57) (e_nd := show G52 31 = nd2_57 from (e66)) (sy := sy1) (e_sy := show G52 19 = sy1 from ((hF61.1 19 rfl).trans ((hF36.1 19 rfl).trans ((hF7.1 19 rfl).trans (ex_sy1))))) (na := na1) (e_na := show G52 28 = na1 from ((hF61.1 28 rfl).trans ((hF36.1 28 rfl).trans ((hF7.1 28 rfl).trans (ex_na1))))) (vi := vi1) (e_vi := show G52 29 = vi1 from ((hF61.1 29 rfl).trans ((hF36.1 29 rfl).trans ((hF7.1 29 rfl).trans (ex_vi1))))) (lf := A 3 (ln2_58).toNat) (e_lf := show A53 3 (ln2_58).toNat = A 3 (ln2_58).toNat from (congrFun ((hF61.2 3 rfl).trans ((hF36.2 3 rfl).trans ((hF7.2 3 rfl).trans (hFx.2 3 rfl)))) _)) (ac := at2_55) (e_ac := show G52 10 = at2_55 from (e64)) (ec := ec2_59) (e_ec := show ecn A53 (G52 31) = ec2_59 from e68) (i_LT := (LT_ext (((hF61.1 3 rfl).trans ((hF36.1 3 rfl).trans ((hF7.1 3 rfl).trans (hFx.1 3 rfl))))) (((hF61.2 3 rfl).trans ((hF36.2 3 rfl).trans ((hF7.2 3 rfl).trans (hFx.2 3 rfl))))) (((hF61.2 4 rfl).trans ((hF36.2 4 rfl).trans ((hF7.2 4 rfl).trans (hFx.2 4 rfl))))) i_LT)) (i_SV := (SV_fx i_SV e_vi (show G52 29 = vi1 from ((hF61.1 29 rfl).trans ((hF36.1 29 rfl).trans ((hF7.1 29 rfl).trans (ex_vi1))))) (by omega) hV78)) (i_PQ := (PQ_fx i_PQ hS77 (by omega) (hF75.2 29 rfl) (hF75.2 30 rfl))) (hvb := hvb) (h_lv := ⟨(by omega), (by omega)⟩)  (p_0 := by omega) (p_1 := by omega) (p_2 := by omega) (p_3 := by omega) (p_4 := by omega) (p_5 := by omega) (p_6 := by omega) (p_7 := by omega) (p_8 := by omega) (p_9 := by omega) (p_10 := by omega)) (fun o V' hq => ?_)
                obtain ⟨G116, A117, r118, ln2_119, at2_120, fk2_121, nd2_122, sy2_123, na2_124, vi2_125, lf2_126, ec2_127, rfl, rfl, hW128, hF129, hQ130, hQ131, hQ132, b133, e134, e135, e136, e137, e138, e139, e140, e141, e142, p143, p144, p145, p146, p147, p148, p149, p150, p151, q152⟩ := hq
                have hF153 := Fr_tr hF75 hF129 (Fr_sub (by decide)) (Fr_sub (by decide))
                have hP154 := Pf_tr hP76 hQ130 (by omega)
                have hS155 := Fx_tr hS77 hQ131 (by omega)
                have hV156 := Fx_tr hV78 hQ132 (by omega)
                have sf157 : ND A117 (n) (32) (0) (0) (0) (0) (Ax 21 (n).toNat) (0) := ND_ag (by omega) (Ag_pf hQ130 (by omega)) sf79
                have sf158 : CL 2 A117 (sy1) pb (k) (Vs) (n) (last) (many) (n + 1) (nd1) (sy) (sy1) := CL_ag (by omega) (by omega) (Fx_su hQ131 (by omega)) (Qg_fr hF129 (by decide)) (Ag_pf hQ130 (by omega)) (hQ130 21 _ rfl (by omega)) sf80
                have sf159 : wU A117 Vs sb (r54) (nd1) (nd2_57) := wU_ag (by omega) (Fx_su hQ131 (by omega)) (Ax_ag (Ag_pf hQ130 (by omega))) a89
                have sf160 : NX A117 (r54) := NX_ag (by omega) (Ag_pf hQ130 (by omega)) a90
                have bln2_119 : (0 : Int) ≤ ln2_119 ∧ ln2_119 ≤ 3000 := e134 ▸ hW128.1 9
                have bat2_120 : (0 : Int) ≤ at2_120 ∧ at2_120 ≤ 3002 := e135 ▸ hW128.1 10
                have bfk2_121 : (0 : Int) ≤ fk2_121 ∧ fk2_121 ≤ 6 := e136 ▸ hW128.1 16
                have bnd2_122 : (0 : Int) ≤ nd2_122 ∧ nd2_122 ≤ 6999 := e137 ▸ hW128.1 31
                have bsy2_123 : (0 : Int) ≤ sy2_123 ∧ sy2_123 ≤ 202 := e138 ▸ hW128.1 19
                have bna2_124 : (0 : Int) ≤ na2_124 ∧ na2_124 ≤ 200 := e139 ▸ hW128.1 28
                have bvi2_125 : (0 : Int) ≤ vi2_125 ∧ vi2_125 ≤ 202 := e140 ▸ hW128.1 29
                have blf2_126 : (0 : Int) ≤ lf2_126 ∧ lf2_126 ≤ 3000 := e141 ▸ hW128.2 3 _
                refine .inr ⟨_, rfl, ?_⟩
                rcases q152 with ⟨a161, a162⟩ | ⟨a163, a164, a165, a166, a167, a168, a169, a170, a171, a172⟩
                · have _q : True := trivial
                  refine jx_ld (pc' := 95) (l' := jSto1 L109 6 (.int (i32 (r118)))) (st' := []) rfl rfl ?_
                  obtain ⟨L173, eL173⟩ : ∃ q, q = jSto1 L109 6 (.int (i32 (r118))) := ⟨_, rfl⟩
                  rw [← eL173]
                  have gL173_0 : jGet L173 0 = some (.ref 66) := eL173 ▸ jg_ne (by decide) gL109_0 rfl
                  have gL173_1 : jGet L173 1 = some (.int (i32 (lv))) := eL173 ▸ jg_ne (by decide) gL109_1 rfl
                  have gL173_2 : jGet L173 2 = some (.int (i32 (n))) := eL173 ▸ jg_ne (by decide) gL109_2 rfl
                  have gL173_3 : jGet L173 3 = some (.int (i32 (last))) := eL173 ▸ jg_ne (by decide) gL109_3 rfl
                  have gL173_4 : jGet L173 4 = some (.int (i32 (many))) := eL173 ▸ jg_ne (by decide) gL109_4 rfl
                  have gL173_5 : jGet L173 5 = some (.int (i32 (r54))) := eL173 ▸ jg_ne (by decide) gL109_5 rfl
                  have gL173_6 : jGet L173 6 = some (.int (i32 (r118))) := eL173 ▸ jg_eq
                  refine jx_ld (pc' := 96) (l' := L173) (st' := [.ref 66]) rfl (jl_aloadn gL173_0) ?_
                  refine jx_vr (pc' := 99) (as := []) (st := []) rfl rfl rfl rfl ⟨rfl, rfl, Nat.le_of_ble_eq_true rfl⟩ rfl rfl (c_bad (dd := d) (hd := by omega) (hW := hW128)  (fk := fk2_121) (e_fk := show G116 16 = fk2_121 from (e136))    ) (fun o V' hq => ?_)
                  obtain ⟨r174, rfl, rfl, b175, q176⟩ := hq
                  refine .inr ⟨_, rfl, ?_⟩
                  rcases q176 with ⟨rfl, a177⟩ | ⟨rfl, a178⟩
                  · have _q : True := trivial
                    refine jx_if_eq (pc' := 102) (tg := 104) rfl rfl rfl (by decide) (by decide) (fun h179 => ?_) (fun h179 => ?_)
                    · have _q := h179
                      exact absurd h179 (by omega)
                    · have _q := h179
                      refine jx_ar (pc' := 103) (st' := [.int (i32 (0))]) rfl rfl rfl rfl ?_
                      refine jx_rt (v := some (.int (i32 (0)))) rfl rfl rfl rfl rfl rfl ?_
                      exact ⟨_, _, _, ln2_119, at2_120, fk2_121, nd2_122, sy2_123, na2_124, vi2_125, lf2_126, ec2_127, rfl, rfl, hW128, hF153, hP154, hS155, hV156, by omega, (e134), (e135), (e136), (e137), (e138), (e139), (e140), (e141), e142, by omega, by omega, by omega, by omega, by omega, by omega, by omega, by omega, by omega, by omega, by first | exact Or.inl (⟨by omega, by omega⟩)⟩
                  · have _q : True := trivial
                    exfalso
                    omega
                · have _q : True := trivial
                  refine jx_ld (pc' := 95) (l' := jSto1 L109 6 (.int (i32 (r118)))) (st' := []) rfl rfl ?_
                  obtain ⟨L180, eL180⟩ : ∃ q, q = jSto1 L109 6 (.int (i32 (r118))) := ⟨_, rfl⟩
                  rw [← eL180]
                  have gL180_0 : jGet L180 0 = some (.ref 66) := eL180 ▸ jg_ne (by decide) gL109_0 rfl
                  have gL180_1 : jGet L180 1 = some (.int (i32 (lv))) := eL180 ▸ jg_ne (by decide) gL109_1 rfl
                  have gL180_2 : jGet L180 2 = some (.int (i32 (n))) := eL180 ▸ jg_ne (by decide) gL109_2 rfl
                  have gL180_3 : jGet L180 3 = some (.int (i32 (last))) := eL180 ▸ jg_ne (by decide) gL109_3 rfl
                  have gL180_4 : jGet L180 4 = some (.int (i32 (many))) := eL180 ▸ jg_ne (by decide) gL109_4 rfl
                  have gL180_5 : jGet L180 5 = some (.int (i32 (r54))) := eL180 ▸ jg_ne (by decide) gL109_5 rfl
                  have gL180_6 : jGet L180 6 = some (.int (i32 (r118))) := eL180 ▸ jg_eq
                  refine jx_ld (pc' := 96) (l' := L180) (st' := [.ref 66]) rfl (jl_aloadn gL180_0) ?_
                  refine jx_vr (pc' := 99) (as := []) (st := []) rfl rfl rfl rfl ⟨rfl, rfl, Nat.le_of_ble_eq_true rfl⟩ rfl rfl (c_bad (dd := d) (hd := by omega) (hW := hW128)  (fk := fk2_121) (e_fk := show G116 16 = fk2_121 from (e136))    ) (fun o V' hq => ?_)
                  obtain ⟨r181, rfl, rfl, b182, q183⟩ := hq
                  refine .inr ⟨_, rfl, ?_⟩
                  rcases q183 with ⟨rfl, a184⟩ | ⟨rfl, a185⟩
                  · have _q : True := trivial
                    exfalso
                    omega
                  · have _q : True := trivial
                    refine jx_if_eq (pc' := 102) (tg := 104) rfl rfl rfl (by decide) (by decide) (fun h186 => ?_) (fun h186 => ?_)
                    · have _q := h186
                      refine jx_ld (pc' := 105) (l' := L180) (st' := [.ref 66]) rfl (jl_aloadn gL180_0) ?_
                      refine jr_get (pc' := 108) (i := 38) (v := .ref 88) rfl rfl (by decide) rfl rfl ?_
                      refine jx_ld (pc' := 110) (l' := L180) (st' := [.int (i32 (r54)), .ref 88]) rfl (jl_iload gL180_5) ?_
                      refine jx_ld (pc' := 112) (l' := L180) (st' := [.int (i32 (r118)), .int (i32 (r54)), .ref 88]) rfl (jl_iload gL180_6) ?_
                      refine jr_st (pc' := 113) (i := 21) (m := 7000) (z := r54) (y := r118) rfl (by decide) rfl (by decide) (by omega) (by omega) rfl ?_
                      have hW188 : Wk G116 (uA A117 21 (r54).toNat (r118)) := Wk_a hW128 (show (-2147483648 : Int) ≤ r118 by omega) (show r118 ≤ (2147483647 : Int) by omega)
                      have hF189 := Fr_a (z := r118) (k := 21) (n := (r54).toNat) hF153 (by decide)
                      obtain ⟨A187, eA187⟩ : ∃ q, q = uA A117 21 (r54).toNat (r118) := ⟨_, rfl⟩
                      rw [← eA187]
                      rw [← eA187] at hW188 hF189
                      have q190 : A187 21 (r54).toNat = r118 := by rw [eA187]; exact uA_eq
                      have hP191 : Pf nd A A187 := eA187 ▸ Pf_a hP154 (z := r54) (by omega) (by omega)
                      have hS192 : Fx sr (sy) A A187 := eA187 ▸ Fx_n hS155 rfl
                      have hV193 : Fx [14] (vi) A A187 := eA187 ▸ Fx_n hV156 rfl
                      have sf194 : ND A187 (n) (32) (0) (0) (0) (0) (Ax 21 (n).toNat) (0) := ND_ag (by omega) (Ag_st eA187 (by omega) (by omega)) sf157
                      have sf195 : CL 2 A187 (sy1) pb (k) (Vs) (n) (last) (many) (n + 1) (nd1) (sy) (sy1) := CL_ag (by omega) (by omega) (Sg_ne eA187 rfl) (Qg_ne eA187 rfl) (Ag_st eA187 (by omega) (by omega)) ((by rw [eA187]; exact uA_ni (by omega))) sf158
                      have sf196 : wU A187 Vs sb (r54) (nd1) (nd2_57) := wU_f eA187 (by omega) sf159
                      have sf197 : NX A187 (r54) := NX_r eA187 (by decide) sf160
                      have sf198 : wP A187 (sy2_123) pb (k) (Vs) (r118) (nd2_57) (nd2_122) (sy1) (sy2_123) := wP_ag (Sg_ne eA187 rfl) (Qg_ne eA187 rfl) (by omega) (by omega) (Ax_ag (Ag_st eA187 (by omega) (by omega))) a169
                      have sf199 : NX A187 (r118) := NX_r eA187 (by decide) a170
                      have ec200 : ecn A187 (G116 31) = ec2_127 := (ecn_e ((congrFun eA187 15).trans (uA_ne (by decide)))).trans e142
                      refine jx_ld (pc' := 114) (l' := L180) (st' := [.ref 66]) rfl (jl_aloadn gL180_0) ?_
                      refine jx_ld (pc' := 115) (l' := L180) (st' := [.int (i32 (n)), .ref 66]) rfl (jl_iloadn gL180_2) ?_
                      refine jx_ld (pc' := 116) (l' := L180) (st' := [.int (i32 (last)), .int (i32 (n)), .ref 66]) rfl (jl_iloadn gL180_3) ?_
                      refine jx_ld (pc' := 118) (l' := L180) (st' := [.int (i32 (r54)), .int (i32 (last)), .int (i32 (n)), .ref 66]) rfl (jl_iload gL180_5) ?_
                      refine jx_vr (pc' := 121) (as := [.int (i32 (n)), .int (i32 (last)), .int (i32 (r54))]) (st := []) rfl rfl rfl rfl ⟨rfl, rfl, Nat.le_of_ble_eq_true rfl⟩ rfl rfl (c_addTo (dd := d) (zz := nd) (hd := by omega) (hW := hW188) (n := n) (last := last) (one := r54)   (h_n := ⟨(Int.le_trans (by decide : (-2147483648 : Int) ≤ -2147483648) rx_n.1), (Int.le_trans rx_n.2 (by decide : (2147483647 : Int) ≤ 2147483647))⟩) (h_last := ⟨(Int.le_trans (by decide : (-2147483648 : Int) ≤ -2147483648) rx_last.1), (Int.le_trans rx_last.2 (by decide : (2147483647 : Int) ≤ 2147483647))⟩) (h_one := ⟨(Int.le_trans (by decide : (-2147483648 : Int) ≤ -2147483648) b63.1), (Int.le_trans b63.2 (by decide : (2147483647 : Int) ≤ 2147483647))⟩)  (p_0 := by omega) (p_1 := by omega) (p_2 := by omega) (p_3 := by omega)) (fun o V' hq => ?_)
                      obtain ⟨G201, A202, rfl, rfl, hW203, hF204, hQ205, q206⟩ := hq
                      have hF207 := Fr_tr hF189 hF204 (Fr_sub (by decide)) (Fr_sub (by decide))
                      have hP208 := Pf_tr hP191 hQ205 (by omega)
                      have hS209 := Fx_f hS192 hF204 (by decide)
                      have hV210 := Fx_f hV193 hF204 (by decide)
                      have ec211 : ecn A202 (G201 31) = ec2_127 := (ecn_f (hF204.2 15 rfl) (hF204.1 31 rfl)).trans ec200
                      refine .inl ⟨rfl, ?_⟩
                      rcases q206 with ⟨a212, a213⟩ | ⟨a214, a215⟩
                      · have _q : True := trivial
                        have sf216 : ND A202 (n) (32) (0) (0) (0) (0) (r54) (0) := ND_f a213 sf194
                        have sf217 : CL 2 A202 (sy2_123) pb (k) (Vs) (n) (r54) (many + 1) (n + 1) (nd2_122) (sy) (sy2_123) := CL_one a213 (by omega) (by omega) (by omega) (by omega) (by omega) (by omega) (show RQ 2 A187 (sy2_123) pb (k) (Vs) (r54) (nd1) (nd2_122) (sy1) (sy2_123) from wG_mk (m := nd2_57) (wU_sb (by omega) (wU_eq sf196 (by omega) (by omega))) (show A187 21 (r54).toNat = r118 from (q190)) (by omega) (by omega) (wP_eq sf198 (by omega) rfl rfl (by omega) rfl (by omega) rfl (by omega))) sf197 (CL_sb (by omega) sf195)
                        have sf218 : wU A202 Vs sb (r54) (nd1) (nd2_57) := wU_ag (by omega) (Sg_ne a213 rfl) (Ax_ag (Ag_st a213 (by omega) (by omega))) sf196
                        have sf219 : NX A202 (r54) := NX_r a213 (by decide) sf197
                        have sf220 : wP A202 (sy2_123) pb (k) (Vs) (r118) (nd2_57) (nd2_122) (sy1) (sy2_123) := wP_ag (Sg_ne a213 rfl) (Qg_ne a213 rfl) (by omega) (by omega) (Ax_ag (Ag_st a213 (by omega) (by omega))) sf198
                        have sf221 : NX A202 (r118) := NX_r a213 (by decide) sf199
                        refine jx_ld (pc' := 123) (l' := L180) (st' := [.int (i32 (r54))]) rfl (jl_iload gL180_5) ?_
                        refine jx_ld (pc' := 124) (l' := jSto1 L180 3 (.int (i32 (r54)))) (st' := []) rfl rfl ?_
                        obtain ⟨L222, eL222⟩ : ∃ q, q = jSto1 L180 3 (.int (i32 (r54))) := ⟨_, rfl⟩
                        rw [← eL222]
                        have gL222_0 : jGet L222 0 = some (.ref 66) := eL222 ▸ jg_ne (by decide) gL180_0 rfl
                        have gL222_1 : jGet L222 1 = some (.int (i32 (lv))) := eL222 ▸ jg_ne (by decide) gL180_1 rfl
                        have gL222_2 : jGet L222 2 = some (.int (i32 (n))) := eL222 ▸ jg_ne (by decide) gL180_2 rfl
                        have gL222_4 : jGet L222 4 = some (.int (i32 (many))) := eL222 ▸ jg_ne (by decide) gL180_4 rfl
                        have gL222_5 : jGet L222 5 = some (.int (i32 (r54))) := eL222 ▸ jg_ne (by decide) gL180_5 rfl
                        have gL222_6 : jGet L222 6 = some (.int (i32 (r118))) := eL222 ▸ jg_ne (by decide) gL180_6 rfl
                        have gL222_3 : jGet L222 3 = some (.int (i32 (r54))) := eL222 ▸ jg_eq
                        refine jx_inc (pc' := 127) (l' := jSto1 L222 4 (.int (i32 ((many + (1)))))) (x := many) rfl gL222_4 (by decide) rfl rfl ?_
                        obtain ⟨L223, eL223⟩ : ∃ q, q = jSto1 L222 4 (.int (i32 ((many + (1))))) := ⟨_, rfl⟩
                        rw [← eL223]
                        have gL223_0 : jGet L223 0 = some (.ref 66) := eL223 ▸ jg_ne (by decide) gL222_0 rfl
                        have gL223_1 : jGet L223 1 = some (.int (i32 (lv))) := eL223 ▸ jg_ne (by decide) gL222_1 rfl
                        have gL223_2 : jGet L223 2 = some (.int (i32 (n))) := eL223 ▸ jg_ne (by decide) gL222_2 rfl
                        have gL223_5 : jGet L223 5 = some (.int (i32 (r54))) := eL223 ▸ jg_ne (by decide) gL222_5 rfl
                        have gL223_6 : jGet L223 6 = some (.int (i32 (r118))) := eL223 ▸ jg_ne (by decide) gL222_6 rfl
                        have gL223_3 : jGet L223 3 = some (.int (i32 (r54))) := eL223 ▸ jg_ne (by decide) gL222_3 rfl
                        have gL223_4 : jGet L223 4 = some (.int (i32 ((many + (1))))) := eL223 ▸ jg_eq
                        refine jx_go (tg := 24) rfl rfl ?_
                        exact ih24 _ (by omega) L223 G201 A202 (n) (r54) ((many + (1))) (ln2_119) (at2_120) (fk2_121) (nd2_122) (sy2_123) (na2_124) (vi2_125) (lf2_126) (ec2_127) rfl gL223_0 gL223_1 gL223_2 gL223_3 gL223_4 hW203 hF207 hP208 hS209 hV210 (((hF204.1 9 rfl).trans (e134))) (((hF204.1 10 rfl).trans (e135))) (((hF204.1 16 rfl).trans (e136))) (((hF204.1 31 rfl).trans (e137))) (((hF204.1 19 rfl).trans (e138))) (((hF204.1 28 rfl).trans (e139))) (((hF204.1 29 rfl).trans (e140))) ((congrFun ((hF204.2 3 rfl).trans ((congrFun eA187 3).trans (uA_ne (by decide)))) _).trans (e141)) (ec211) (by omega) (by omega) (by omega) (by omega) (by omega) (by omega) (by omega) (by omega) (by omega) (by omega) (by omega) (by omega) (by omega) (by omega) (by omega) (by omega) (by omega) (by omega) ((ND_sf sf216)) ((CL_eq (CL_sb (by omega) sf217) (by omega) (by omega) (by omega) (by omega) (by omega) (by omega))) (by omega) (by omega)
                      · have _q : True := trivial
                        have sf224 : ND A202 (n) (32) (0) (0) (0) (0) (Ax 21 (n).toNat) (0) := ND_ag (by omega) (Ag_st a215 (by omega) (by omega)) sf194
                        have sf225 : CL 2 A202 (sy2_123) pb (k) (Vs) (n) (r54) (many + 1) (n + 1) (nd2_122) (sy) (sy2_123) := CL_two a215 (by omega) (by omega) (by omega) (by omega) (by omega) (show RQ 2 A187 (sy2_123) pb (k) (Vs) (r54) (nd1) (nd2_122) (sy1) (sy2_123) from wG_mk (m := nd2_57) (wU_sb (by omega) (wU_eq sf196 (by omega) (by omega))) (show A187 21 (r54).toNat = r118 from (q190)) (by omega) (by omega) (wP_eq sf198 (by omega) rfl rfl (by omega) rfl (by omega) rfl (by omega))) sf197 (CL_sb (by omega) sf195)
                        have sf226 : wU A202 Vs sb (r54) (nd1) (nd2_57) := wU_ag (by omega) (Sg_ne a215 rfl) (Ax_ag (Ag_st a215 (by omega) (by omega))) sf196
                        have sf227 : NX A202 (r54) := NX_ag (by omega) (Ag_st a215 (by omega) (by omega)) sf197
                        have sf228 : wP A202 (sy2_123) pb (k) (Vs) (r118) (nd2_57) (nd2_122) (sy1) (sy2_123) := wP_ag (Sg_ne a215 rfl) (Qg_ne a215 rfl) (by omega) (by omega) (Ax_ag (Ag_st a215 (by omega) (by omega))) sf198
                        have sf229 : NX A202 (r118) := NX_ag (by omega) (Ag_st a215 (by omega) (by omega)) sf199
                        refine jx_ld (pc' := 123) (l' := L180) (st' := [.int (i32 (r54))]) rfl (jl_iload gL180_5) ?_
                        refine jx_ld (pc' := 124) (l' := jSto1 L180 3 (.int (i32 (r54)))) (st' := []) rfl rfl ?_
                        obtain ⟨L230, eL230⟩ : ∃ q, q = jSto1 L180 3 (.int (i32 (r54))) := ⟨_, rfl⟩
                        rw [← eL230]
                        have gL230_0 : jGet L230 0 = some (.ref 66) := eL230 ▸ jg_ne (by decide) gL180_0 rfl
                        have gL230_1 : jGet L230 1 = some (.int (i32 (lv))) := eL230 ▸ jg_ne (by decide) gL180_1 rfl
                        have gL230_2 : jGet L230 2 = some (.int (i32 (n))) := eL230 ▸ jg_ne (by decide) gL180_2 rfl
                        have gL230_4 : jGet L230 4 = some (.int (i32 (many))) := eL230 ▸ jg_ne (by decide) gL180_4 rfl
                        have gL230_5 : jGet L230 5 = some (.int (i32 (r54))) := eL230 ▸ jg_ne (by decide) gL180_5 rfl
                        have gL230_6 : jGet L230 6 = some (.int (i32 (r118))) := eL230 ▸ jg_ne (by decide) gL180_6 rfl
                        have gL230_3 : jGet L230 3 = some (.int (i32 (r54))) := eL230 ▸ jg_eq
                        refine jx_inc (pc' := 127) (l' := jSto1 L230 4 (.int (i32 ((many + (1)))))) (x := many) rfl gL230_4 (by decide) rfl rfl ?_
                        obtain ⟨L231, eL231⟩ : ∃ q, q = jSto1 L230 4 (.int (i32 ((many + (1))))) := ⟨_, rfl⟩
                        rw [← eL231]
                        have gL231_0 : jGet L231 0 = some (.ref 66) := eL231 ▸ jg_ne (by decide) gL230_0 rfl
                        have gL231_1 : jGet L231 1 = some (.int (i32 (lv))) := eL231 ▸ jg_ne (by decide) gL230_1 rfl
                        have gL231_2 : jGet L231 2 = some (.int (i32 (n))) := eL231 ▸ jg_ne (by decide) gL230_2 rfl
                        have gL231_5 : jGet L231 5 = some (.int (i32 (r54))) := eL231 ▸ jg_ne (by decide) gL230_5 rfl
                        have gL231_6 : jGet L231 6 = some (.int (i32 (r118))) := eL231 ▸ jg_ne (by decide) gL230_6 rfl
                        have gL231_3 : jGet L231 3 = some (.int (i32 (r54))) := eL231 ▸ jg_ne (by decide) gL230_3 rfl
                        have gL231_4 : jGet L231 4 = some (.int (i32 ((many + (1))))) := eL231 ▸ jg_eq
                        refine jx_go (tg := 24) rfl rfl ?_
                        exact ih24 _ (by omega) L231 G201 A202 (n) (r54) ((many + (1))) (ln2_119) (at2_120) (fk2_121) (nd2_122) (sy2_123) (na2_124) (vi2_125) (lf2_126) (ec2_127) rfl gL231_0 gL231_1 gL231_2 gL231_3 gL231_4 hW203 hF207 hP208 hS209 hV210 (((hF204.1 9 rfl).trans (e134))) (((hF204.1 10 rfl).trans (e135))) (((hF204.1 16 rfl).trans (e136))) (((hF204.1 31 rfl).trans (e137))) (((hF204.1 19 rfl).trans (e138))) (((hF204.1 28 rfl).trans (e139))) (((hF204.1 29 rfl).trans (e140))) ((congrFun ((hF204.2 3 rfl).trans ((congrFun eA187 3).trans (uA_ne (by decide)))) _).trans (e141)) (ec211) (by omega) (by omega) (by omega) (by omega) (by omega) (by omega) (by omega) (by omega) (by omega) (by omega) (by omega) (by omega) (by omega) (by omega) (by omega) (by omega) (by omega) (by omega) ((ND_sf sf224)) ((CL_eq (CL_sb (by omega) sf225) (by omega) (by omega) (by omega) (by omega) (by omega) (by omega))) (by omega) (by omega)
                    · have _q := h186
                      exact absurd h186 (by omega)
              · have _q := h115
                exact absurd h115 (by omega)
        · have _q := h29
          refine jx_ld (pc' := 40) (l' := L) (st' := [.ref 66]) rfl (jl_aloadn gL_0) ?_
          refine jx_ar (pc' := 41) (st' := [.int (i32 (1)), .ref 66]) rfl rfl rfl rfl ?_
          refine jx_ld (pc' := 42) (l' := L) (st' := [.ref 66, .int (i32 (1)), .ref 66]) rfl (jl_aloadn gL_0) ?_
          refine jr_get (pc' := 45) (i := 6) (v := .ref 70) rfl rfl (by decide) rfl rfl ?_
          refine jx_ld (pc' := 46) (l' := L) (st' := [.ref 66, .ref 70, .int (i32 (1)), .ref 66]) rfl (jl_aloadn gL_0) ?_
          refine jr_get (pc' := 49) (i := 9) (v := .int (i32 (ln1))) rfl rfl (by decide) (rFv_eq (by decide) (show G2 9 = ln1 from ((hF7.1 9 rfl).trans (ex_ln1)))) rfl ?_
          refine jr_ldv (pc' := 50) (i := 3) (m := 3001) (z := ln1) (y := lf1) rfl (by decide) rfl (by decide) (Int.le_trans (by decide : (0 : Int) ≤ 0) b_ln1.1) (Int.lt_of_le_of_lt b_ln1.2 (by decide : (3000 : Int) < ((3001 : Nat) : Int))) rfl (show A3 3 (ln1).toNat = lf1 from (congrFun (hF7.2 3 rfl) _).trans (ex_lf1)) ?_
          refine jx_ld (pc' := 51) (l' := L) (st' := [.ref 66, .int (i32 (lf1)), .int (i32 (1)), .ref 66]) rfl (jl_aloadn gL_0) ?_
          refine jr_get (pc' := 54) (i := 5) (v := .ref 69) rfl rfl (by decide) rfl rfl ?_
          refine jx_ld (pc' := 55) (l' := L) (st' := [.ref 66, .ref 69, .int (i32 (lf1)), .int (i32 (1)), .ref 66]) rfl (jl_aloadn gL_0) ?_
          refine jr_get (pc' := 58) (i := 9) (v := .int (i32 (ln1))) rfl rfl (by decide) (rFv_eq (by decide) (show G2 9 = ln1 from ((hF7.1 9 rfl).trans (ex_ln1)))) rfl ?_
          have b232 : (0 : Int) ≤ A 2 (ln1).toNat ∧ A 2 (ln1).toNat ≤ 3000 := hW.2 2 _
          refine jr_ldv (pc' := 59) (i := 2) (m := 3001) (z := ln1) (y := A 2 (ln1).toNat) rfl (by decide) rfl (by decide) (Int.le_trans (by decide : (0 : Int) ≤ 0) b_ln1.1) (Int.lt_of_le_of_lt b_ln1.2 (by decide : (3000 : Int) < ((3001 : Nat) : Int))) rfl (show A3 2 (ln1).toNat = A 2 (ln1).toNat from (congrFun ((hF7.2 2 rfl).trans (hFx.2 2 rfl)) _)) ?_
          refine jx_sub (pc' := 60) rfl rfl ?_
          refine jx_vr (pc' := 63) (as := [.int (i32 (1)), .int (i32 ((lf1 - A 2 (ln1).toNat)))]) (st := []) rfl rfl rfl rfl ⟨rfl, rfl, Nat.le_of_ble_eq_true rfl⟩ rfl rfl (c_fail (dd := d) (hd := by omega) (hW := hW6) (kind := 1) (place := (lf1 - A 2 (ln1).toNat)) (fk := fk2_5) (e_fk := show G2 16 = fk2_5 from (e9))  (h_kind := ⟨(by decide), (by decide)⟩) (h_place := ⟨(by omega), (by omega)⟩)  (p_0 := by omega) (p_1 := by omega)) (fun o V' hq => ?_)
          obtain ⟨G233, A234, fk2_235, rfl, rfl, hW236, hF237, e238, p239, -⟩ := hq
          have hF241 := Fr_tr hF11 hF237 (Fr_sub (by decide)) (Fr_sub (by decide))
          have hP242 := Pf_f hP12 hF237 (by decide)
          have hS243 := Fx_f hS13 hF237 (by decide)
          have hV244 := Fx_f hV14 hF237 (by decide)
          have sf245 : ND A234 (n) (32) (0) (0) (0) (0) (Ax 21 (n).toNat) (0) := ND_ag (by omega) (Ag_fr hF237 (by decide)) sf15
          have sf246 : CL 2 A234 (sy1) pb (k) (Vs) (n) (last) (many) (n + 1) (nd1) (sy) (sy1) := CL_ag (by omega) (by omega) (Sg_fr hF237 (by decide)) (Qg_fr hF237 (by decide)) (Ag_fr hF237 (by decide)) (congrFun (hF237.2 21 rfl) _) sf16
          have ec247 : ecn A234 (G233 31) = ec1 := (ecn_f (hF237.2 15 rfl) (hF237.1 31 rfl)).trans ec17
          have bfk2_235 : (0 : Int) ≤ fk2_235 ∧ fk2_235 ≤ 6 := e238 ▸ hW236.1 16
          refine .inl ⟨rfl, ?_⟩
          refine jx_ar (pc' := 64) (st' := [.int (i32 (0))]) rfl rfl rfl rfl ?_
          refine jx_rt (v := some (.int (i32 (0)))) rfl rfl rfl rfl rfl rfl ?_
          exact ⟨_, _, _, ln1, at1, fk2_235, nd1, sy1, na1, vi1, lf1, ec1, rfl, rfl, hW236, hF241, hP242, hS243, hV244, by omega, ((hF237.1 9 rfl).trans ((hF7.1 9 rfl).trans (ex_ln1))), ((hF237.1 10 rfl).trans ((hF7.1 10 rfl).trans (ex_at1))), (e238), ((hF237.1 31 rfl).trans ((hF7.1 31 rfl).trans (ex_nd1))), ((hF237.1 19 rfl).trans ((hF7.1 19 rfl).trans (ex_sy1))), ((hF237.1 28 rfl).trans ((hF7.1 28 rfl).trans (ex_na1))), ((hF237.1 29 rfl).trans ((hF7.1 29 rfl).trans (ex_vi1))), (congrFun ((hF237.2 3 rfl).trans (hF7.2 3 rfl)) _).trans (ex_lf1), ec247, by omega, by omega, by omega, by omega, by omega, by omega, by omega, by omega, by omega, by omega, by first | exact Or.inl (⟨by omega, by omega⟩)⟩
    · have _q : True := trivial
      refine jx_if_eq (pc' := 32) (tg := 130) rfl rfl rfl (by decide) (by decide) (fun h248 => ?_) (fun h248 => ?_)
      · have _q := h248
        refine jx_ld (pc' := 131) (l' := L) (st' := [.ref 66]) rfl (jl_aloadn gL_0) ?_
        refine jx_vr (pc' := 134) (as := []) (st := []) rfl rfl rfl rfl ⟨rfl, rfl, Nat.le_of_ble_eq_true rfl⟩ rfl rfl (c_bad (dd := d) (hd := by omega) (hW := hW6)  (fk := fk2_5) (e_fk := show G2 16 = fk2_5 from (e9))    ) (fun o V' hq => ?_)
        obtain ⟨r249, rfl, rfl, b250, q251⟩ := hq
        refine .inr ⟨_, rfl, ?_⟩
        rcases q251 with ⟨rfl, a252⟩ | ⟨rfl, a253⟩
        · have _q : True := trivial
          refine jx_if_ne (pc' := 137) (tg := 150) rfl rfl rfl (by decide) (by decide) (fun h254 => ?_) (fun h254 => ?_)
          · have _q := h254
            refine jx_ld (pc' := 151) (l' := L) (st' := [.ref 66]) rfl (jl_aloadn gL_0) ?_
            refine jr_get (pc' := 154) (i := 35) (v := .ref 85) rfl rfl (by decide) rfl rfl ?_
            refine jx_ld (pc' := 155) (l' := L) (st' := [.int (i32 (n)), .ref 85]) rfl (jl_iloadn gL_2) ?_
            refine jx_ld (pc' := 157) (l' := L) (st' := [.int (i32 (many)), .int (i32 (n)), .ref 85]) rfl (jl_iload gL_4) ?_
            refine jr_st (pc' := 158) (i := 18) (m := 7000) (z := n) (y := many) rfl (by decide) rfl (by decide) (by omega) (by omega) rfl ?_
            have hW256 : Wk G2 (uA A3 18 (n).toNat (many)) := Wk_a hW6 (show (-2147483648 : Int) ≤ many by omega) (show many ≤ (2147483647 : Int) by omega)
            have hF257 := Fr_a (z := many) (k := 18) (n := (n).toNat) hF11 (by decide)
            obtain ⟨A255, eA255⟩ : ∃ q, q = uA A3 18 (n).toNat (many) := ⟨_, rfl⟩
            rw [← eA255]
            rw [← eA255] at hW256 hF257
            have q258 : A255 18 (n).toNat = many := by rw [eA255]; exact uA_eq
            have hP259 : Pf nd A A255 := eA255 ▸ Pf_a hP12 (z := n) (by omega) (by omega)
            have hS260 : Fx sr (sy) A A255 := eA255 ▸ Fx_n hS13 rfl
            have hV261 : Fx [14] (vi) A A255 := eA255 ▸ Fx_n hV14 rfl
            have sf262 : ND A255 (n) (32) (0) (many) (0) (0) (Ax 21 (n).toNat) (0) := ND_b eA255 sf15
            have sf263 : CL 2 A255 (sy1) pb (k) (Vs) (n) (last) (many) (n + 1) (nd1) (sy) (sy1) := CL_ag (by omega) (by omega) (Sg_ne eA255 rfl) (Qg_ne eA255 rfl) (Ag_st eA255 (by omega) (by omega)) ((congrFun ((congrFun eA255 21).trans (uA_ne (by decide))) _)) sf16
            have ec264 : ecn A255 (G2 31) = ec1 := (ecn_e ((congrFun eA255 15).trans (uA_ne (by decide)))).trans ec17
            refine jx_ld (pc' := 159) (l' := L) (st' := [.int (i32 (n))]) rfl (jl_iloadn gL_2) ?_
            refine jx_rt (v := some (.int (i32 (n)))) rfl rfl rfl rfl rfl rfl ?_
            exact ⟨_, _, _, ln1, at1, fk2_5, nd1, sy1, na1, vi1, lf1, ec1, rfl, rfl, hW256, hF257, hP259, hS260, hV261, by omega, ((hF7.1 9 rfl).trans (ex_ln1)), ((hF7.1 10 rfl).trans (ex_at1)), (e9), ((hF7.1 31 rfl).trans (ex_nd1)), ((hF7.1 19 rfl).trans (ex_sy1)), ((hF7.1 28 rfl).trans (ex_na1)), ((hF7.1 29 rfl).trans (ex_vi1)), (congrFun (((congrFun eA255 3).trans (uA_ne (by decide))).trans (hF7.2 3 rfl)) _).trans (ex_lf1), ec264, by omega, by omega, by omega, by omega, by omega, by omega, by omega, by omega, by omega, by omega, by first | exact Or.inl (⟨by omega, by omega⟩)⟩
          · have _q := h254
            exact absurd h254 (by omega)
        · have _q : True := trivial
          exfalso
          omega
      · have _q := h248
        exact absurd h248 (by omega)
    · have _q : True := trivial
      refine jx_if_eq (pc' := 32) (tg := 130) rfl rfl rfl (by decide) (by decide) (fun h265 => ?_) (fun h265 => ?_)
      · have _q := h265
        refine jx_ld (pc' := 131) (l' := L) (st' := [.ref 66]) rfl (jl_aloadn gL_0) ?_
        refine jx_vr (pc' := 134) (as := []) (st := []) rfl rfl rfl rfl ⟨rfl, rfl, Nat.le_of_ble_eq_true rfl⟩ rfl rfl (c_bad (dd := d) (hd := by omega) (hW := hW6)  (fk := fk2_5) (e_fk := show G2 16 = fk2_5 from (e9))    ) (fun o V' hq => ?_)
        obtain ⟨r266, rfl, rfl, b267, q268⟩ := hq
        refine .inr ⟨_, rfl, ?_⟩
        rcases q268 with ⟨rfl, a269⟩ | ⟨rfl, a270⟩
        · have _q : True := trivial
          exfalso
          omega
        · have _q : True := trivial
          refine jx_if_ne (pc' := 137) (tg := 150) rfl rfl rfl (by decide) (by decide) (fun h271 => ?_) (fun h271 => ?_)
          · have _q := h271
            exact absurd h271 (by omega)
          · have _q := h271
            refine jx_ld (pc' := 139) (l' := L) (st' := [.int (i32 (many))]) rfl (jl_iload gL_4) ?_
            refine jx_if_ne (pc' := 142) (tg := 150) rfl rfl rfl (Int.le_trans (by decide : (-2147483648 : Int) ≤ -2147483648) rx_many.1) (Int.le_trans rx_many.2 (by decide : (2147483647 : Int) ≤ 2147483647)) (fun h272 => ?_) (fun h272 => ?_)
            · have _q := h272
              refine jx_ld (pc' := 151) (l' := L) (st' := [.ref 66]) rfl (jl_aloadn gL_0) ?_
              refine jr_get (pc' := 154) (i := 35) (v := .ref 85) rfl rfl (by decide) rfl rfl ?_
              refine jx_ld (pc' := 155) (l' := L) (st' := [.int (i32 (n)), .ref 85]) rfl (jl_iloadn gL_2) ?_
              refine jx_ld (pc' := 157) (l' := L) (st' := [.int (i32 (many)), .int (i32 (n)), .ref 85]) rfl (jl_iload gL_4) ?_
              refine jr_st (pc' := 158) (i := 18) (m := 7000) (z := n) (y := many) rfl (by decide) rfl (by decide) (by omega) (by omega) rfl ?_
              have hW274 : Wk G2 (uA A3 18 (n).toNat (many)) := Wk_a hW6 (show (-2147483648 : Int) ≤ many by omega) (show many ≤ (2147483647 : Int) by omega)
              have hF275 := Fr_a (z := many) (k := 18) (n := (n).toNat) hF11 (by decide)
              obtain ⟨A273, eA273⟩ : ∃ q, q = uA A3 18 (n).toNat (many) := ⟨_, rfl⟩
              rw [← eA273]
              rw [← eA273] at hW274 hF275
              have q276 : A273 18 (n).toNat = many := by rw [eA273]; exact uA_eq
              have hP277 : Pf nd A A273 := eA273 ▸ Pf_a hP12 (z := n) (by omega) (by omega)
              have hS278 : Fx sr (sy) A A273 := eA273 ▸ Fx_n hS13 rfl
              have hV279 : Fx [14] (vi) A A273 := eA273 ▸ Fx_n hV14 rfl
              have sf280 : ND A273 (n) (32) (0) (many) (0) (0) (Ax 21 (n).toNat) (0) := ND_b eA273 sf15
              have sf281 : CL 2 A273 (sy1) pb (k) (Vs) (n) (last) (many) (n + 1) (nd1) (sy) (sy1) := CL_ag (by omega) (by omega) (Sg_ne eA273 rfl) (Qg_ne eA273 rfl) (Ag_st eA273 (by omega) (by omega)) ((congrFun ((congrFun eA273 21).trans (uA_ne (by decide))) _)) sf16
              have ec282 : ecn A273 (G2 31) = ec1 := (ecn_e ((congrFun eA273 15).trans (uA_ne (by decide)))).trans ec17
              refine jx_ld (pc' := 159) (l' := L) (st' := [.int (i32 (n))]) rfl (jl_iloadn gL_2) ?_
              refine jx_rt (v := some (.int (i32 (n)))) rfl rfl rfl rfl rfl rfl ?_
              exact ⟨_, _, _, ln1, at1, fk2_5, nd1, sy1, na1, vi1, lf1, ec1, rfl, rfl, hW274, hF275, hP277, hS278, hV279, by omega, ((hF7.1 9 rfl).trans (ex_ln1)), ((hF7.1 10 rfl).trans (ex_at1)), (e9), ((hF7.1 31 rfl).trans (ex_nd1)), ((hF7.1 19 rfl).trans (ex_sy1)), ((hF7.1 28 rfl).trans (ex_na1)), ((hF7.1 29 rfl).trans (ex_vi1)), (congrFun (((congrFun eA273 3).trans (uA_ne (by decide))).trans (hF7.2 3 rfl)) _).trans (ex_lf1), ec282, by omega, by omega, by omega, by omega, by omega, by omega, by omega, by omega, by omega, by omega, by first | exact Or.inr ((⟨by omega, by omega, by omega, by omega, by omega, by omega, by omega, (wS_alt sf280 (RL_eq (RL_cl sf281) (by omega) (by omega) (by omega) (by omega) (by omega)) (by omega) (by omega)), (NX_nd sf280), by omega, by omega⟩))⟩
            · have _q := h272
              refine jx_ld (pc' := 143) (l' := L) (st' := [.ref 66]) rfl (jl_aloadn gL_0) ?_
              refine jx_ld (pc' := 144) (l' := L) (st' := [.int (i32 (lv)), .ref 66]) rfl (jl_iloadn gL_1) ?_
              refine jx_ar (pc' := 145) (st' := [.int (i32 (1)), .int (i32 (lv)), .ref 66]) rfl rfl rfl rfl ?_
              refine jx_add (pc' := 146) rfl rfl ?_
              refine jx_vr (pc' := 149) (as := [.int (i32 ((lv + 1)))]) (st := []) rfl rfl rfl rfl ⟨rfl, rfl, Nat.le_of_ble_eq_true rfl⟩ rfl rfl (c_needLevel (dd := d) (hd := by omega) (hW := hW6) (lv := (lv + 1)) (ln := ln1) (e_ln := show G2 9 = ln1 from ((hF7.1 9 rfl).trans (ex_ln1))) (li := li) (e_li := show G2 3 = li from ((hF7.1 3 rfl).trans ((hFx.1 3 rfl).trans (e_li)))) (fk := fk2_5) (e_fk := show G2 16 = fk2_5 from (e9)) (ll := A 5 (ln1).toNat) (e_ll := show A3 5 (ln1).toNat = A 5 (ln1).toNat from (congrFun ((hF7.2 5 rfl).trans (hFx.2 5 rfl)) _))  (h_lv := ⟨(by omega), (by omega)⟩)  ) (fun o V' hq => ?_)
              obtain ⟨G283, A284, r285, fk2_286, rfl, rfl, hW287, hF288, b289, e290, q291⟩ := hq
              have hF292 := Fr_tr hF11 hF288 (Fr_sub (by decide)) (Fr_sub (by decide))
              have hP293 := Pf_f hP12 hF288 (by decide)
              have hS294 := Fx_f hS13 hF288 (by decide)
              have hV295 := Fx_f hV14 hF288 (by decide)
              have sf296 : ND A284 (n) (32) (0) (0) (0) (0) (Ax 21 (n).toNat) (0) := ND_ag (by omega) (Ag_fr hF288 (by decide)) sf15
              have sf297 : CL 2 A284 (sy1) pb (k) (Vs) (n) (last) (many) (n + 1) (nd1) (sy) (sy1) := CL_ag (by omega) (by omega) (Sg_fr hF288 (by decide)) (Qg_fr hF288 (by decide)) (Ag_fr hF288 (by decide)) (congrFun (hF288.2 21 rfl) _) sf16
              have ec298 : ecn A284 (G283 31) = ec1 := (ecn_f (hF288.2 15 rfl) (hF288.1 31 rfl)).trans ec17
              have bfk2_286 : (0 : Int) ≤ fk2_286 ∧ fk2_286 ≤ 6 := e290 ▸ hW287.1 16
              refine .inr ⟨_, rfl, ?_⟩
              rcases q291 with ⟨rfl, a299, a300, a301, a302⟩ | ⟨rfl, a303⟩
              · have _q : True := trivial
                have b304 : (0 : Int) ≤ A 4 (ln1).toNat ∧ A 4 (ln1).toNat ≤ 3000 := hW.2 4 _
                have lt305 : lf1 < A 4 (ln1).toNat := LT_at (LT_ext (((hF288.1 3 rfl).trans ((hF7.1 3 rfl).trans (hFx.1 3 rfl)))) (((hF288.2 3 rfl).trans ((hF7.2 3 rfl).trans (hFx.2 3 rfl)))) (((hF288.2 4 rfl).trans ((hF7.2 4 rfl).trans (hFx.2 4 rfl)))) i_LT) (show G283 3 = li from ((hF288.1 3 rfl).trans ((hF7.1 3 rfl).trans ((hFx.1 3 rfl).trans (e_li))))) (show A284 3 (ln1).toNat = lf1 from (congrFun ((hF288.2 3 rfl).trans (hF7.2 3 rfl)) _).trans (ex_lf1)) (show A284 4 (ln1).toNat = A 4 (ln1).toNat from (congrFun ((hF288.2 4 rfl).trans ((hF7.2 4 rfl).trans (hFx.2 4 rfl))) _)) (by omega) (by omega)
                refine jx_ar (pc' := 150) (st' := []) rfl rfl rfl rfl ?_
                refine jx_ld (pc' := 151) (l' := L) (st' := [.ref 66]) rfl (jl_aloadn gL_0) ?_
                refine jr_get (pc' := 154) (i := 35) (v := .ref 85) rfl rfl (by decide) rfl rfl ?_
                refine jx_ld (pc' := 155) (l' := L) (st' := [.int (i32 (n)), .ref 85]) rfl (jl_iloadn gL_2) ?_
                refine jx_ld (pc' := 157) (l' := L) (st' := [.int (i32 (many)), .int (i32 (n)), .ref 85]) rfl (jl_iload gL_4) ?_
                refine jr_st (pc' := 158) (i := 18) (m := 7000) (z := n) (y := many) rfl (by decide) rfl (by decide) (by omega) (by omega) rfl ?_
                have hW307 : Wk G283 (uA A284 18 (n).toNat (many)) := Wk_a hW287 (show (-2147483648 : Int) ≤ many by omega) (show many ≤ (2147483647 : Int) by omega)
                have hF308 := Fr_a (z := many) (k := 18) (n := (n).toNat) hF292 (by decide)
                obtain ⟨A306, eA306⟩ : ∃ q, q = uA A284 18 (n).toNat (many) := ⟨_, rfl⟩
                rw [← eA306]
                rw [← eA306] at hW307 hF308
                have q309 : A306 18 (n).toNat = many := by rw [eA306]; exact uA_eq
                have hP310 : Pf nd A A306 := eA306 ▸ Pf_a hP293 (z := n) (by omega) (by omega)
                have hS311 : Fx sr (sy) A A306 := eA306 ▸ Fx_n hS294 rfl
                have hV312 : Fx [14] (vi) A A306 := eA306 ▸ Fx_n hV295 rfl
                have sf313 : ND A306 (n) (32) (0) (many) (0) (0) (Ax 21 (n).toNat) (0) := ND_b eA306 sf296
                have sf314 : CL 2 A306 (sy1) pb (k) (Vs) (n) (last) (many) (n + 1) (nd1) (sy) (sy1) := CL_ag (by omega) (by omega) (Sg_ne eA306 rfl) (Qg_ne eA306 rfl) (Ag_st eA306 (by omega) (by omega)) ((congrFun ((congrFun eA306 21).trans (uA_ne (by decide))) _)) sf297
                have ec315 : ecn A306 (G283 31) = ec1 := (ecn_e ((congrFun eA306 15).trans (uA_ne (by decide)))).trans ec298
                refine jx_ld (pc' := 159) (l' := L) (st' := [.int (i32 (n))]) rfl (jl_iloadn gL_2) ?_
                refine jx_rt (v := some (.int (i32 (n)))) rfl rfl rfl rfl rfl rfl ?_
                exact ⟨_, _, _, ln1, at1, fk2_286, nd1, sy1, na1, vi1, lf1, ec1, rfl, rfl, hW307, hF308, hP310, hS311, hV312, by omega, ((hF288.1 9 rfl).trans ((hF7.1 9 rfl).trans (ex_ln1))), ((hF288.1 10 rfl).trans ((hF7.1 10 rfl).trans (ex_at1))), (e290), ((hF288.1 31 rfl).trans ((hF7.1 31 rfl).trans (ex_nd1))), ((hF288.1 19 rfl).trans ((hF7.1 19 rfl).trans (ex_sy1))), ((hF288.1 28 rfl).trans ((hF7.1 28 rfl).trans (ex_na1))), ((hF288.1 29 rfl).trans ((hF7.1 29 rfl).trans (ex_vi1))), (congrFun (((congrFun eA306 3).trans (uA_ne (by decide))).trans ((hF288.2 3 rfl).trans (hF7.2 3 rfl))) _).trans (ex_lf1), ec315, by omega, by omega, by omega, by omega, by omega, by omega, by omega, by omega, by omega, by omega, by first | exact Or.inr ((⟨by omega, by omega, by omega, by omega, by omega, by omega, by omega, (wS_alt sf313 (RL_eq (RL_cl sf314) (by omega) (by omega) (by omega) (by omega) (by omega)) (by omega) (by omega)), (NX_nd sf313), by omega, by omega⟩))⟩
              · have _q : True := trivial
                refine jx_ar (pc' := 150) (st' := []) rfl rfl rfl rfl ?_
                refine jx_ld (pc' := 151) (l' := L) (st' := [.ref 66]) rfl (jl_aloadn gL_0) ?_
                refine jr_get (pc' := 154) (i := 35) (v := .ref 85) rfl rfl (by decide) rfl rfl ?_
                refine jx_ld (pc' := 155) (l' := L) (st' := [.int (i32 (n)), .ref 85]) rfl (jl_iloadn gL_2) ?_
                refine jx_ld (pc' := 157) (l' := L) (st' := [.int (i32 (many)), .int (i32 (n)), .ref 85]) rfl (jl_iload gL_4) ?_
                refine jr_st (pc' := 158) (i := 18) (m := 7000) (z := n) (y := many) rfl (by decide) rfl (by decide) (by omega) (by omega) rfl ?_
                have hW317 : Wk G283 (uA A284 18 (n).toNat (many)) := Wk_a hW287 (show (-2147483648 : Int) ≤ many by omega) (show many ≤ (2147483647 : Int) by omega)
                have hF318 := Fr_a (z := many) (k := 18) (n := (n).toNat) hF292 (by decide)
                obtain ⟨A316, eA316⟩ : ∃ q, q = uA A284 18 (n).toNat (many) := ⟨_, rfl⟩
                rw [← eA316]
                rw [← eA316] at hW317 hF318
                have q319 : A316 18 (n).toNat = many := by rw [eA316]; exact uA_eq
                have hP320 : Pf nd A A316 := eA316 ▸ Pf_a hP293 (z := n) (by omega) (by omega)
                have hS321 : Fx sr (sy) A A316 := eA316 ▸ Fx_n hS294 rfl
                have hV322 : Fx [14] (vi) A A316 := eA316 ▸ Fx_n hV295 rfl
                have sf323 : ND A316 (n) (32) (0) (many) (0) (0) (Ax 21 (n).toNat) (0) := ND_b eA316 sf296
                have sf324 : CL 2 A316 (sy1) pb (k) (Vs) (n) (last) (many) (n + 1) (nd1) (sy) (sy1) := CL_ag (by omega) (by omega) (Sg_ne eA316 rfl) (Qg_ne eA316 rfl) (Ag_st eA316 (by omega) (by omega)) ((congrFun ((congrFun eA316 21).trans (uA_ne (by decide))) _)) sf297
                have ec325 : ecn A316 (G283 31) = ec1 := (ecn_e ((congrFun eA316 15).trans (uA_ne (by decide)))).trans ec298
                refine jx_ld (pc' := 159) (l' := L) (st' := [.int (i32 (n))]) rfl (jl_iloadn gL_2) ?_
                refine jx_rt (v := some (.int (i32 (n)))) rfl rfl rfl rfl rfl rfl ?_
                exact ⟨_, _, _, ln1, at1, fk2_286, nd1, sy1, na1, vi1, lf1, ec1, rfl, rfl, hW317, hF318, hP320, hS321, hV322, by omega, ((hF288.1 9 rfl).trans ((hF7.1 9 rfl).trans (ex_ln1))), ((hF288.1 10 rfl).trans ((hF7.1 10 rfl).trans (ex_at1))), (e290), ((hF288.1 31 rfl).trans ((hF7.1 31 rfl).trans (ex_nd1))), ((hF288.1 19 rfl).trans ((hF7.1 19 rfl).trans (ex_sy1))), ((hF288.1 28 rfl).trans ((hF7.1 28 rfl).trans (ex_na1))), ((hF288.1 29 rfl).trans ((hF7.1 29 rfl).trans (ex_vi1))), (congrFun (((congrFun eA316 3).trans (uA_ne (by decide))).trans ((hF288.2 3 rfl).trans (hF7.2 3 rfl))) _).trans (ex_lf1), ec325, by omega, by omega, by omega, by omega, by omega, by omega, by omega, by omega, by omega, by omega, by first | exact Or.inl (⟨by omega, by omega⟩)⟩
      · have _q := h265
        exact absurd h265 (by omega)
set_option maxRecDepth 20000 in
set_option maxHeartbeats 4000000 in
theorem c_readAlt_w {X : jX} {k : Nat} (hP : RPw X k) {dd : Nat} {Vs : Nat → Prop} {sb pb : Int} (hvb : VB Vs sb) {c0 c1 : jC} {G : Nat → Int} {A : Nat → Nat → Int} {T : jH} {lv : Int} {ln li at0 fk nd sy na vi le op0 tk0 ec : Int} (hd : 8 * k + 82 ≤ dd) (hW : Wk G A) (e_ln : G 9 = ln) (e_li : G 3 = li) (e_at0 : G 10 = at0) (e_fk : G 16 = fk) (e_nd : G 31 = nd) (e_sy : G 19 = sy) (e_na : G 28 = na) (e_vi : G 29 = vi) (e_le : A 4 (ln).toNat = le) (e_op0 : G 15 = op0) (e_tk0 : G 11 = tk0) (e_ec : ecn A (G 31) = ec) (i_LT : LT G A) (i_SV : SV Vs sb G A) (i_PQ : PQ Vs sb pb G A) (h_lv : (-2147483648 : Int) ≤ lv ∧ lv ≤ 2147483647) (p_0 : 0 ≤ lv ∧ lv ≤ 15) (p_1 : 18 - lv ≤ ((k + 1 : Nat) : Int)) (p_2 : fk = 0) (p_3 : ln < li) (p_4 : at0 ≤ le) (p_5 : op0 = 0) (p_6 : nd ≤ 2 * at0 - tz tk0 + 30) (p_7 : sy ≤ na + 2) (p_8 : vi ≤ sy) (p_9 : sb = sy) (p_10 : 1 ≤ tk0) : wk X dd 302 [.ref 66, .int (i32 lv)] (rV c0 c1 G A T) (fun o V' => ∃ (G' : Nat → Int) (A' : Nat → Nat → Int) (r : Int) (ln2 : Int) (at2 : Int) (fk2 : Int) (nd2 : Int) (sy2 : Int) (na2 : Int) (vi2 : Int) (lf2 : Int) (ec2 : Int), V' = rV c0 c1 G' A' T ∧ o = .inl (some (.int (i32 r))) ∧ Wk G' A' ∧ Fr [9, 10, 11, 12, 13, 14, 15, 16, 17, 18, 19, 28, 29, 31] [6, 7, 8, 9, 10, 11, 12, 14, 15, 16, 17, 18, 19, 20, 21, 22, 23, 24, 28] G A G' A' ∧ Pf nd A A' ∧ Fx sr (sy) A A' ∧ Fx [14] (vi) A A' ∧ ((-2147483648 : Int) ≤ r ∧ r ≤ 2147483647) ∧ G' 9 = ln2 ∧ G' 10 = at2 ∧ G' 16 = fk2 ∧ G' 31 = nd2 ∧ G' 19 = sy2 ∧ G' 28 = na2 ∧ G' 29 = vi2 ∧ A' 3 (ln2).toNat = lf2 ∧ ecn A' (G' 31) = ec2 ∧ (at0 ≤ at2) ∧ (nd ≤ nd2) ∧ (sy ≤ sy2) ∧ (sy2 ≤ na2 + 2) ∧ (vi ≤ vi2) ∧ (vi2 ≤ vi + 1) ∧ (0 ≤ r) ∧ (r ≤ 6999) ∧ (ln ≤ ln2) ∧ (ln2 ≤ li) ∧ (((1 ≤ fk2) ∧ (nd2 - nd ≤ 2 * at2 - (2 * at0 - tz tk0) + 14)) ∨ ((fk2 = 0) ∧ (vi2 = vi) ∧ (ln < ln2) ∧ (nd2 - nd ≤ 2 * at2 - (2 * at0 - tz tk0)) ∧ (at2 < lf2 ∨ li ≤ ln2) ∧ (nd ≤ r) ∧ (r < nd2) ∧ (wSt A' (sy2) pb (wP A' (sy2) pb (k)) (Vs) (r) (nd) (nd2) (sy) (sy2)) ∧ (NX A' (r)) ∧ (nd2 - nd + 5 * (ec2 - ec) ≤ 2 * at2 - (2 * at0 - tz tk0)) ∧ (nd + 5 * ec ≤ r)))) := by
  obtain ⟨d, rfl⟩ : ∃ d, dd = d + 1 := ⟨dd - 1, by omega⟩
  refine wk_of (e := jm302) rfl (Nat.le_of_ble_eq_true rfl) ?_
  show wj X d jm302 (0, [(0, .ref 66), (1, .int (i32 (lv)))], [], rV c0 c1 G A T) _
  have hF0 : Fr [9, 10, 11, 12, 13, 14, 15, 16, 17, 18, 19, 28, 29, 31] [6, 7, 8, 9, 10, 11, 12, 14, 15, 16, 17, 18, 19, 20, 21, 22, 23, 24, 28] G A G A := Fr_rf
  have hP0 : Pf nd A A := Pf_rf
  have hS0 : Fx sr (sy) A A := Fx_rf
  have hV0 : Fx [14] (vi) A A := Fx_rf
  have b_ln : (0 : Int) ≤ ln ∧ ln ≤ 3000 := e_ln ▸ hW.1 9
  have b_li : (0 : Int) ≤ li ∧ li ≤ 3000 := e_li ▸ hW.1 3
  have b_at0 : (0 : Int) ≤ at0 ∧ at0 ≤ 3002 := e_at0 ▸ hW.1 10
  have b_fk : (0 : Int) ≤ fk ∧ fk ≤ 6 := e_fk ▸ hW.1 16
  have b_nd : (0 : Int) ≤ nd ∧ nd ≤ 6999 := e_nd ▸ hW.1 31
  have b_sy : (0 : Int) ≤ sy ∧ sy ≤ 202 := e_sy ▸ hW.1 19
  have b_na : (0 : Int) ≤ na ∧ na ≤ 200 := e_na ▸ hW.1 28
  have b_vi : (0 : Int) ≤ vi ∧ vi ≤ 202 := e_vi ▸ hW.1 29
  have b_le : (0 : Int) ≤ le ∧ le ≤ 3000 := e_le ▸ hW.2 4 _
  have b_op0 : (-2147483648 : Int) ≤ op0 ∧ op0 ≤ 2147483647 := e_op0 ▸ hW.1 15
  have z_tk0 := tz_f tk0
  have b_tk0 : (0 : Int) ≤ tk0 ∧ tk0 ≤ 5 := e_tk0 ▸ hW.1 11
  refine jx_ld (pc' := 1) (l' := [(0, .ref 66), (1, .int (i32 (lv)))]) (st' := [.ref 66]) rfl (jl_aloadn rfl) ?_
  refine jx_ar (pc' := 3) (st' := [.int (i32 (32)), .ref 66]) rfl rfl rfl rfl ?_
  refine jx_ar (pc' := 4) (st' := [.int (i32 (0)), .int (i32 (32)), .ref 66]) rfl rfl rfl rfl ?_
  refine jx_ar (pc' := 5) (st' := [.int (i32 (0)), .int (i32 (0)), .int (i32 (32)), .ref 66]) rfl rfl rfl rfl ?_
  refine jx_ar (pc' := 6) (st' := [.int (i32 (0)), .int (i32 (0)), .int (i32 (0)), .int (i32 (32)), .ref 66]) rfl rfl rfl rfl ?_
  refine jx_ar (pc' := 7) (st' := [.int (i32 (0)), .int (i32 (0)), .int (i32 (0)), .int (i32 (0)), .int (i32 (32)), .ref 66]) rfl rfl rfl rfl ?_
  refine jx_vr (pc' := 10) (as := [.int (i32 (32)), .int (i32 (0)), .int (i32 (0)), .int (i32 (0)), .int (i32 (0))]) (st := []) rfl rfl rfl rfl ⟨rfl, rfl, Nat.le_of_ble_eq_true rfl⟩ rfl rfl (c_node_o (dd := d) (hd := by omega) (hW := hW) (kind := 32) (a := 0) (b := 0) (c := 0) (e := 0) (nd := nd) (e_nd := show G 31 = nd from (e_nd)) (ec := ec) (e_ec := show ecn A (G 31) = ec from e_ec)  (h_kind := ⟨(by decide), (by decide)⟩) (h_a := ⟨(by decide), (by decide)⟩) (h_b := ⟨(by decide), (by decide)⟩) (h_c := ⟨(by decide), (by decide)⟩) (h_e := ⟨(by decide), (by decide)⟩)  (p_0 := by omega) (p_1 := by omega) (p_2 := by omega)) (fun o V' hq => ?_)
  obtain ⟨G326, A327, nd2_328, ec2_329, rfl, rfl, hW330, hF331, hQ332, e333, e334, p335, p336, p337, -⟩ := hq
  have hF339 := Fr_tr hF0 hF331 (Fr_sub (by decide)) (Fr_sub (by decide))
  have hP340 := Pf_tr hP0 hQ332 (by omega)
  have hS341 := Fx_f hS0 hF331 (by decide)
  have hV342 := Fx_f hV0 hF331 (by decide)
  have bnd2_328 : (0 : Int) ≤ nd2_328 ∧ nd2_328 ≤ 6999 := e333 ▸ hW330.1 31
  refine .inr ⟨_, rfl, ?_⟩
  refine jx_ld (pc' := 11) (l' := jSto1 [(0, .ref 66), (1, .int (i32 (lv)))] 2 (.int (i32 (nd)))) (st' := []) rfl rfl ?_
  obtain ⟨L343, eL343⟩ : ∃ q, q = jSto1 [(0, .ref 66), (1, .int (i32 (lv)))] 2 (.int (i32 (nd))) := ⟨_, rfl⟩
  rw [← eL343]
  have gL343_0 : jGet L343 0 = some (.ref 66) := eL343 ▸ jg_ne (by decide) (rfl : jGet [(0, .ref 66), (1, .int (i32 (lv)))] 0 = some (.ref 66)) rfl
  have gL343_1 : jGet L343 1 = some (.int (i32 (lv))) := eL343 ▸ jg_ne (by decide) (rfl : jGet [(0, .ref 66), (1, .int (i32 (lv)))] 1 = some (.int (i32 (lv)))) rfl
  have gL343_2 : jGet L343 2 = some (.int (i32 (nd))) := eL343 ▸ jg_eq
  refine jx_ld (pc' := 12) (l' := L343) (st' := [.ref 66]) rfl (jl_aloadn gL343_0) ?_
  refine jx_vr (pc' := 15) (as := []) (st := []) rfl rfl rfl rfl ⟨rfl, rfl, Nat.le_of_ble_eq_true rfl⟩ rfl rfl (c_next (dd := d) (hd := by omega) (hW := hW330)  (ln := ln) (e_ln := show G326 9 = ln from ((hF331.1 9 rfl).trans (e_ln))) (le := le) (e_le := show A327 4 (ln).toNat = le from (congrFun (hF331.2 4 rfl) _).trans (e_le)) (at0 := at0) (e_at0 := show G326 10 = at0 from ((hF331.1 10 rfl).trans (e_at0)))    (p_0 := by omega)) (fun o V' hq => ?_)
  obtain ⟨G344, A345, at2_346, tk2_347, rfl, rfl, hW348, hF349, e350, e351, p352, p353, p354, -⟩ := hq
  have hF356 := Fr_tr hF339 hF349 (Fr_sub (by decide)) (Fr_sub (by decide))
  have hP357 := Pf_f hP340 hF349 (by decide)
  have hS358 := Fx_f hS341 hF349 (by decide)
  have hV359 := Fx_f hV342 hF349 (by decide)
  have sf360 : ND A345 (nd) (32) (0) (0) (0) (0) (0) (0) := ND_ag (by omega) (Ag_fr hF349 (by decide)) p337
  have ec361 : ecn A345 (G344 31) = ec2_329 := (ecn_f (hF349.2 15 rfl) (hF349.1 31 rfl)).trans e334
  have bat2_346 : (0 : Int) ≤ at2_346 ∧ at2_346 ≤ 3002 := e350 ▸ hW348.1 10
  have ztk2_347 := tz_b tk2_347
  have btk2_347 : (0 : Int) ≤ tk2_347 ∧ tk2_347 ≤ 5 := e351 ▸ hW348.1 11
  refine .inl ⟨rfl, ?_⟩
  refine jx_ld (pc' := 16) (l' := L343) (st' := [.ref 66]) rfl (jl_aloadn gL343_0) ?_
  refine jx_vr (pc' := 19) (as := []) (st := []) rfl rfl rfl rfl ⟨rfl, rfl, Nat.le_of_ble_eq_true rfl⟩ rfl rfl (c_endLine (dd := d) (hd := by omega) (hW := hW348)  (ln := ln) (e_ln := show G344 9 = ln from ((hF349.1 9 rfl).trans ((hF331.1 9 rfl).trans (e_ln)))) (li := li) (e_li := show G344 3 = li from ((hF349.1 3 rfl).trans ((hF331.1 3 rfl).trans (e_li)))) (fk := fk) (e_fk := show G344 16 = fk from ((hF349.1 16 rfl).trans ((hF331.1 16 rfl).trans (e_fk)))) (tk0 := tk2_347) (e_tk0 := show G344 11 = tk2_347 from (e351))    (p_0 := by omega)) (fun o V' hq => ?_)
  obtain ⟨G362, A363, ln2_364, fk2_365, rfl, rfl, hW366, hF367, e368, e369, q370⟩ := hq
  have hF371 := Fr_tr hF356 hF367 (Fr_sub (by decide)) (Fr_sub (by decide))
  have hP372 := Pf_f hP357 hF367 (by decide)
  have hS373 := Fx_f hS358 hF367 (by decide)
  have hV374 := Fx_f hV359 hF367 (by decide)
  have sf375 : ND A363 (nd) (32) (0) (0) (0) (0) (0) (0) := ND_ag (by omega) (Ag_fr hF367 (by decide)) sf360
  have ec376 : ecn A363 (G362 31) = ec2_329 := (ecn_f (hF367.2 15 rfl) (hF367.1 31 rfl)).trans ec361
  have bln2_364 : (0 : Int) ≤ ln2_364 ∧ ln2_364 ≤ 3000 := e368 ▸ hW366.1 9
  have bfk2_365 : (0 : Int) ≤ fk2_365 ∧ fk2_365 ≤ 6 := e369 ▸ hW366.1 16
  refine .inl ⟨rfl, ?_⟩
  rcases q370 with ⟨a377, a378, a379, a380, a381⟩ | ⟨a382, a383⟩
  · have _q : True := trivial
    have b384 : (0 : Int) ≤ A 3 (ln2_364).toNat ∧ A 3 (ln2_364).toNat ≤ 3000 := hW.2 3 _
    have lt385 : ln2_364 < li → le < A 3 (ln2_364).toNat := fun hh => LT_nx (LT_ext (((hF367.1 3 rfl).trans ((hF349.1 3 rfl).trans (hF331.1 3 rfl)))) (((hF367.2 3 rfl).trans ((hF349.2 3 rfl).trans (hF331.2 3 rfl)))) (((hF367.2 4 rfl).trans ((hF349.2 4 rfl).trans (hF331.2 4 rfl)))) i_LT) (show G362 3 = li from ((hF367.1 3 rfl).trans ((hF349.1 3 rfl).trans ((hF331.1 3 rfl).trans (e_li))))) (show A363 4 (ln).toNat = le from (congrFun ((hF367.2 4 rfl).trans ((hF349.2 4 rfl).trans (hF331.2 4 rfl))) _).trans (e_le)) (show A363 3 (ln2_364).toNat = A 3 (ln2_364).toNat from (congrFun ((hF367.2 3 rfl).trans ((hF349.2 3 rfl).trans (hF331.2 3 rfl))) _)) (show ln2_364 = ln + 1 by omega) (by omega) hh
    refine jx_ar (pc' := 20) (st' := [.int (i32 (0))]) rfl rfl rfl rfl ?_
    refine jx_ld (pc' := 21) (l' := jSto1 L343 3 (.int (i32 (0)))) (st' := []) rfl rfl ?_
    obtain ⟨L386, eL386⟩ : ∃ q, q = jSto1 L343 3 (.int (i32 (0))) := ⟨_, rfl⟩
    rw [← eL386]
    have gL386_0 : jGet L386 0 = some (.ref 66) := eL386 ▸ jg_ne (by decide) gL343_0 rfl
    have gL386_1 : jGet L386 1 = some (.int (i32 (lv))) := eL386 ▸ jg_ne (by decide) gL343_1 rfl
    have gL386_2 : jGet L386 2 = some (.int (i32 (nd))) := eL386 ▸ jg_ne (by decide) gL343_2 rfl
    have gL386_3 : jGet L386 3 = some (.int (i32 (0))) := eL386 ▸ jg_eq
    refine jx_ar (pc' := 22) (st' := [.int (i32 (0))]) rfl rfl rfl rfl ?_
    refine jx_ld (pc' := 24) (l' := jSto1 L386 4 (.int (i32 (0)))) (st' := []) rfl rfl ?_
    obtain ⟨L387, eL387⟩ : ∃ q, q = jSto1 L386 4 (.int (i32 (0))) := ⟨_, rfl⟩
    rw [← eL387]
    have gL387_0 : jGet L387 0 = some (.ref 66) := eL387 ▸ jg_ne (by decide) gL386_0 rfl
    have gL387_1 : jGet L387 1 = some (.int (i32 (lv))) := eL387 ▸ jg_ne (by decide) gL386_1 rfl
    have gL387_2 : jGet L387 2 = some (.int (i32 (nd))) := eL387 ▸ jg_ne (by decide) gL386_2 rfl
    have gL387_3 : jGet L387 3 = some (.int (i32 (0))) := eL387 ▸ jg_ne (by decide) gL386_3 rfl
    have gL387_4 : jGet L387 4 = some (.int (i32 (0))) := eL387 ▸ jg_eq
    exact c_readAlt_w_at_24 (X := X) (k := k) (hP := hP) (d := d) (Vs := Vs) (sb := sb) (pb := pb) (hvb := hvb) (c0 := c0) (c1 := c1) (G := G) (A := A) (T := T) (lv := lv) (ln := ln) (li := li) (at0 := at0) (fk := fk) (nd := nd) (sy := sy) (na := na) (vi := vi) (le := le) (op0 := op0) (tk0 := tk0) (ec := ec) (hd := hd) (hW := hW) (e_ln := e_ln) (e_li := e_li) (e_at0 := e_at0) (e_fk := e_fk) (e_nd := e_nd) (e_sy := e_sy) (e_na := e_na) (e_vi := e_vi) (e_le := e_le) (e_op0 := e_op0) (e_tk0 := e_tk0) (e_ec := e_ec) (i_LT := i_LT) (i_SV := i_SV) (i_PQ := i_PQ) (h_lv := h_lv) (p_0 := p_0) (p_1 := p_1) (p_2 := p_2) (p_3 := p_3) (p_4 := p_4) (p_5 := p_5) (p_6 := p_6) (p_7 := p_7) (p_8 := p_8) (p_9 := p_9) (p_10 := p_10) _ L387 G362 A363 (nd) (0) (0) (ln2_364) (at2_346) (fk2_365) (nd2_328) (sy) (na) (vi) (A 3 (ln2_364).toNat) (ec2_329) rfl gL387_0 gL387_1 gL387_2 gL387_3 gL387_4 hW366 hF371 hP372 hS373 hV374 ((e368)) (((hF367.1 10 rfl).trans (e350))) ((e369)) (((hF367.1 31 rfl).trans ((hF349.1 31 rfl).trans (e333)))) (((hF367.1 19 rfl).trans ((hF349.1 19 rfl).trans ((hF331.1 19 rfl).trans (e_sy))))) (((hF367.1 28 rfl).trans ((hF349.1 28 rfl).trans ((hF331.1 28 rfl).trans (e_na))))) (((hF367.1 29 rfl).trans ((hF349.1 29 rfl).trans ((hF331.1 29 rfl).trans (e_vi))))) ((congrFun ((hF367.2 3 rfl).trans ((hF349.2 3 rfl).trans (hF331.2 3 rfl))) _)) (ec376) (by omega) (by omega) (by omega) (by omega) (by omega) (by omega) (by omega) (by omega) (by omega) (by omega) (by omega) (by omega) (by omega) (by omega) (by omega) (by omega) (by omega) (by omega) ((ND_sf sf375)) ((CL_eq (CL_nil (lo := nd + 1) (s0 := sy) (ND_f0 sf375)) (by omega) (by omega) (by omega) (by omega) (by omega) (by omega))) (by omega) (by omega)
  · have _q : True := trivial
    refine jx_ar (pc' := 20) (st' := [.int (i32 (0))]) rfl rfl rfl rfl ?_
    refine jx_ld (pc' := 21) (l' := jSto1 L343 3 (.int (i32 (0)))) (st' := []) rfl rfl ?_
    obtain ⟨L388, eL388⟩ : ∃ q, q = jSto1 L343 3 (.int (i32 (0))) := ⟨_, rfl⟩
    rw [← eL388]
    have gL388_0 : jGet L388 0 = some (.ref 66) := eL388 ▸ jg_ne (by decide) gL343_0 rfl
    have gL388_1 : jGet L388 1 = some (.int (i32 (lv))) := eL388 ▸ jg_ne (by decide) gL343_1 rfl
    have gL388_2 : jGet L388 2 = some (.int (i32 (nd))) := eL388 ▸ jg_ne (by decide) gL343_2 rfl
    have gL388_3 : jGet L388 3 = some (.int (i32 (0))) := eL388 ▸ jg_eq
    refine jx_ar (pc' := 22) (st' := [.int (i32 (0))]) rfl rfl rfl rfl ?_
    refine jx_ld (pc' := 24) (l' := jSto1 L388 4 (.int (i32 (0)))) (st' := []) rfl rfl ?_
    obtain ⟨L389, eL389⟩ : ∃ q, q = jSto1 L388 4 (.int (i32 (0))) := ⟨_, rfl⟩
    rw [← eL389]
    have gL389_0 : jGet L389 0 = some (.ref 66) := eL389 ▸ jg_ne (by decide) gL388_0 rfl
    have gL389_1 : jGet L389 1 = some (.int (i32 (lv))) := eL389 ▸ jg_ne (by decide) gL388_1 rfl
    have gL389_2 : jGet L389 2 = some (.int (i32 (nd))) := eL389 ▸ jg_ne (by decide) gL388_2 rfl
    have gL389_3 : jGet L389 3 = some (.int (i32 (0))) := eL389 ▸ jg_ne (by decide) gL388_3 rfl
    have gL389_4 : jGet L389 4 = some (.int (i32 (0))) := eL389 ▸ jg_eq
    refine jx_ld (pc' := 25) (l' := L389) (st' := [.ref 66]) rfl (jl_aloadn gL389_0) ?_
    refine jx_ld (pc' := 26) (l' := L389) (st' := [.int (i32 (lv)), .ref 66]) rfl (jl_iloadn gL389_1) ?_
    have b390 : (-1 : Int) ≤ A 5 (ln2_364).toNat ∧ A 5 (ln2_364).toNat ≤ 15 := hW.2 5 _
    refine jx_vr (pc' := 29) (as := [.int (i32 (lv))]) (st := []) rfl rfl rfl rfl ⟨rfl, rfl, Nat.le_of_ble_eq_true rfl⟩ rfl rfl (c_isBelow (dd := d) (hd := by omega) (hW := hW366) (lv := lv) (ln := ln2_364) (e_ln := show G362 9 = ln2_364 from (e368)) (li := li) (e_li := show G362 3 = li from ((hF367.1 3 rfl).trans ((hF349.1 3 rfl).trans ((hF331.1 3 rfl).trans (e_li))))) (fk := fk2_365) (e_fk := show G362 16 = fk2_365 from (e369)) (ll := A 5 (ln2_364).toNat) (e_ll := show A363 5 (ln2_364).toNat = A 5 (ln2_364).toNat from (congrFun ((hF367.2 5 rfl).trans ((hF349.2 5 rfl).trans (hF331.2 5 rfl))) _))  (h_lv := ⟨(Int.le_trans (by decide : (-2147483648 : Int) ≤ -2147483648) h_lv.1), (Int.le_trans h_lv.2 (by decide : (2147483647 : Int) ≤ 2147483647))⟩)  (p_0 := by omega)) (fun o V' hq => ?_)
    obtain ⟨G391, A392, r393, fk2_394, rfl, rfl, hW395, hF396, b397, e398, q399⟩ := hq
    have hF400 := Fr_tr hF371 hF396 (Fr_sub (by decide)) (Fr_sub (by decide))
    have hP401 := Pf_f hP372 hF396 (by decide)
    have hS402 := Fx_f hS373 hF396 (by decide)
    have hV403 := Fx_f hV374 hF396 (by decide)
    have sf404 : ND A392 (nd) (32) (0) (0) (0) (0) (0) (0) := ND_ag (by omega) (Ag_fr hF396 (by decide)) sf375
    have ec405 : ecn A392 (G391 31) = ec2_329 := (ecn_f (hF396.2 15 rfl) (hF396.1 31 rfl)).trans ec376
    have bfk2_394 : (0 : Int) ≤ fk2_394 ∧ fk2_394 ≤ 6 := e398 ▸ hW395.1 16
    refine .inr ⟨_, rfl, ?_⟩
    rcases q399 with ⟨rfl, a406, a407, a408, a409⟩ | ⟨rfl, a410⟩ | ⟨rfl, a411, a412, a413⟩
    · have _q : True := trivial
      exfalso
      omega
    · have _q : True := trivial
      refine jx_if_eq (pc' := 32) (tg := 130) rfl rfl rfl (by decide) (by decide) (fun h414 => ?_) (fun h414 => ?_)
      · have _q := h414
        refine jx_ld (pc' := 131) (l' := L389) (st' := [.ref 66]) rfl (jl_aloadn gL389_0) ?_
        refine jx_vr (pc' := 134) (as := []) (st := []) rfl rfl rfl rfl ⟨rfl, rfl, Nat.le_of_ble_eq_true rfl⟩ rfl rfl (c_bad (dd := d) (hd := by omega) (hW := hW395)  (fk := fk2_394) (e_fk := show G391 16 = fk2_394 from (e398))    ) (fun o V' hq => ?_)
        obtain ⟨r415, rfl, rfl, b416, q417⟩ := hq
        refine .inr ⟨_, rfl, ?_⟩
        rcases q417 with ⟨rfl, a418⟩ | ⟨rfl, a419⟩
        · have _q : True := trivial
          refine jx_if_ne (pc' := 137) (tg := 150) rfl rfl rfl (by decide) (by decide) (fun h420 => ?_) (fun h420 => ?_)
          · have _q := h420
            refine jx_ld (pc' := 151) (l' := L389) (st' := [.ref 66]) rfl (jl_aloadn gL389_0) ?_
            refine jr_get (pc' := 154) (i := 35) (v := .ref 85) rfl rfl (by decide) rfl rfl ?_
            refine jx_ld (pc' := 155) (l' := L389) (st' := [.int (i32 (nd)), .ref 85]) rfl (jl_iloadn gL389_2) ?_
            refine jx_ld (pc' := 157) (l' := L389) (st' := [.int (i32 (0)), .int (i32 (nd)), .ref 85]) rfl (jl_iload gL389_4) ?_
            refine jr_st (pc' := 158) (i := 18) (m := 7000) (z := nd) (y := 0) rfl (by decide) rfl (by decide) (by omega) (by omega) rfl ?_
            have hW422 : Wk G391 (uA A392 18 (nd).toNat (0)) := Wk_a hW395 (show (-2147483648 : Int) ≤ 0 by omega) (show 0 ≤ (2147483647 : Int) by omega)
            have hF423 := Fr_a (z := 0) (k := 18) (n := (nd).toNat) hF400 (by decide)
            obtain ⟨A421, eA421⟩ : ∃ q, q = uA A392 18 (nd).toNat (0) := ⟨_, rfl⟩
            rw [← eA421]
            rw [← eA421] at hW422 hF423
            have q424 : A421 18 (nd).toNat = 0 := by rw [eA421]; exact uA_eq
            have hP425 : Pf nd A A421 := eA421 ▸ Pf_a hP401 (z := nd) (by omega) (by omega)
            have hS426 : Fx sr (sy) A A421 := eA421 ▸ Fx_n hS402 rfl
            have hV427 : Fx [14] (vi) A A421 := eA421 ▸ Fx_n hV403 rfl
            have sf428 : ND A421 (nd) (32) (0) (0) (0) (0) (0) (0) := ND_b eA421 sf404
            have ec429 : ecn A421 (G391 31) = ec2_329 := (ecn_e ((congrFun eA421 15).trans (uA_ne (by decide)))).trans ec405
            refine jx_ld (pc' := 159) (l' := L389) (st' := [.int (i32 (nd))]) rfl (jl_iloadn gL389_2) ?_
            refine jx_rt (v := some (.int (i32 (nd)))) rfl rfl rfl rfl rfl rfl ?_
            exact ⟨_, _, _, ln2_364, at2_346, fk2_394, nd2_328, sy, na, vi, A 3 (ln2_364).toNat, ec2_329, rfl, rfl, hW422, hF423, hP425, hS426, hV427, by omega, ((hF396.1 9 rfl).trans (e368)), ((hF396.1 10 rfl).trans ((hF367.1 10 rfl).trans (e350))), (e398), ((hF396.1 31 rfl).trans ((hF367.1 31 rfl).trans ((hF349.1 31 rfl).trans (e333)))), ((hF396.1 19 rfl).trans ((hF367.1 19 rfl).trans ((hF349.1 19 rfl).trans ((hF331.1 19 rfl).trans (e_sy))))), ((hF396.1 28 rfl).trans ((hF367.1 28 rfl).trans ((hF349.1 28 rfl).trans ((hF331.1 28 rfl).trans (e_na))))), ((hF396.1 29 rfl).trans ((hF367.1 29 rfl).trans ((hF349.1 29 rfl).trans ((hF331.1 29 rfl).trans (e_vi))))), (congrFun (((congrFun eA421 3).trans (uA_ne (by decide))).trans ((hF396.2 3 rfl).trans ((hF367.2 3 rfl).trans ((hF349.2 3 rfl).trans (hF331.2 3 rfl))))) _), ec429, by omega, by omega, by omega, by omega, by omega, by omega, by omega, by omega, by omega, by omega, by first | exact Or.inl (⟨by omega, by omega⟩)⟩
          · have _q := h420
            exact absurd h420 (by omega)
        · have _q : True := trivial
          exfalso
          omega
      · have _q := h414
        exact absurd h414 (by omega)
    · have _q : True := trivial
      exfalso
      omega
set_option maxRecDepth 20000 in
set_option maxHeartbeats 4000000 in
theorem c_readStatement_w {X : jX} {k : Nat} (hP : RPw X k) {dd : Nat} {Vs : Nat → Prop} {sb pb : Int} (hvb : VB Vs sb) {c0 c1 : jC} {G : Nat → Int} {A : Nat → Nat → Int} {T : jH} {lv : Int} {ln li at0 fk nd sy na vi le op0 tk0 ec : Int} (hd : 8 * k + 83 ≤ dd) (hW : Wk G A) (e_ln : G 9 = ln) (e_li : G 3 = li) (e_at0 : G 10 = at0) (e_fk : G 16 = fk) (e_nd : G 31 = nd) (e_sy : G 19 = sy) (e_na : G 28 = na) (e_vi : G 29 = vi) (e_le : A 4 (ln).toNat = le) (e_op0 : G 15 = op0) (e_tk0 : G 11 = tk0) (e_ec : ecn A (G 31) = ec) (i_LT : LT G A) (i_SV : SV Vs sb G A) (i_PQ : PQ Vs sb pb G A) (h_lv : (-2147483648 : Int) ≤ lv ∧ lv ≤ 2147483647) (p_0 : 0 ≤ lv ∧ lv ≤ 15) (p_1 : 18 - lv ≤ ((k + 1 : Nat) : Int)) (p_2 : fk = 0) (p_3 : ln < li) (p_4 : at0 ≤ le) (p_5 : op0 = 0) (p_6 : nd ≤ 2 * at0 - tz tk0 + 30) (p_7 : sy ≤ na + 2) (p_8 : vi ≤ sy) (p_9 : sb = sy) : wk X dd 295 [.ref 66, .int (i32 lv)] (rV c0 c1 G A T) (fun o V' => ∃ (G' : Nat → Int) (A' : Nat → Nat → Int) (r : Int) (ln2 : Int) (at2 : Int) (fk2 : Int) (nd2 : Int) (sy2 : Int) (na2 : Int) (vi2 : Int) (lf2 : Int) (ec2 : Int), V' = rV c0 c1 G' A' T ∧ o = .inl (some (.int (i32 r))) ∧ Wk G' A' ∧ Fr [9, 10, 11, 12, 13, 14, 15, 16, 17, 18, 19, 28, 29, 31] [6, 7, 8, 9, 10, 11, 12, 14, 15, 16, 17, 18, 19, 20, 21, 22, 23, 24, 28] G A G' A' ∧ Pf nd A A' ∧ Fx sr (sy) A A' ∧ Fx [14] (vi) A A' ∧ ((-2147483648 : Int) ≤ r ∧ r ≤ 2147483647) ∧ G' 9 = ln2 ∧ G' 10 = at2 ∧ G' 16 = fk2 ∧ G' 31 = nd2 ∧ G' 19 = sy2 ∧ G' 28 = na2 ∧ G' 29 = vi2 ∧ A' 3 (ln2).toNat = lf2 ∧ ecn A' (G' 31) = ec2 ∧ (at0 ≤ at2) ∧ (nd ≤ nd2) ∧ (sy ≤ sy2) ∧ (sy2 ≤ na2 + 2) ∧ (vi ≤ vi2) ∧ (vi2 ≤ vi + 1) ∧ (0 ≤ r) ∧ (r ≤ 6999) ∧ (ln ≤ ln2) ∧ (ln2 ≤ li) ∧ (((1 ≤ fk2) ∧ (nd2 - nd ≤ 2 * at2 - (2 * at0 - tz tk0) + 14)) ∨ ((fk2 = 0) ∧ (vi2 = vi) ∧ (ln < ln2) ∧ (nd2 - nd ≤ 2 * at2 - (2 * at0 - tz tk0)) ∧ (at2 < lf2 ∨ li ≤ ln2) ∧ (nd ≤ r) ∧ (r < nd2) ∧ (wSt A' (sy2) pb (wP A' (sy2) pb (k)) (Vs) (r) (nd) (nd2) (sy) (sy2)) ∧ (NX A' (r)) ∧ (nd2 - nd + 5 * (ec2 - ec) ≤ 2 * at2 - (2 * at0 - tz tk0)) ∧ (nd + 5 * ec ≤ r)))) := by
  obtain ⟨d, rfl⟩ : ∃ d, dd = d + 1 := ⟨dd - 1, by omega⟩
  refine wk_of (e := jm295) rfl (Nat.le_of_ble_eq_true rfl) ?_
  show wj X d jm295 (0, [(0, .ref 66), (1, .int (i32 (lv)))], [], rV c0 c1 G A T) _
  have hF0 : Fr [9, 10, 11, 12, 13, 14, 15, 16, 17, 18, 19, 28, 29, 31] [6, 7, 8, 9, 10, 11, 12, 14, 15, 16, 17, 18, 19, 20, 21, 22, 23, 24, 28] G A G A := Fr_rf
  have hP0 : Pf nd A A := Pf_rf
  have hS0 : Fx sr (sy) A A := Fx_rf
  have hV0 : Fx [14] (vi) A A := Fx_rf
  have b_ln : (0 : Int) ≤ ln ∧ ln ≤ 3000 := e_ln ▸ hW.1 9
  have b_li : (0 : Int) ≤ li ∧ li ≤ 3000 := e_li ▸ hW.1 3
  have b_at0 : (0 : Int) ≤ at0 ∧ at0 ≤ 3002 := e_at0 ▸ hW.1 10
  have b_fk : (0 : Int) ≤ fk ∧ fk ≤ 6 := e_fk ▸ hW.1 16
  have b_nd : (0 : Int) ≤ nd ∧ nd ≤ 6999 := e_nd ▸ hW.1 31
  have b_sy : (0 : Int) ≤ sy ∧ sy ≤ 202 := e_sy ▸ hW.1 19
  have b_na : (0 : Int) ≤ na ∧ na ≤ 200 := e_na ▸ hW.1 28
  have b_vi : (0 : Int) ≤ vi ∧ vi ≤ 202 := e_vi ▸ hW.1 29
  have b_le : (0 : Int) ≤ le ∧ le ≤ 3000 := e_le ▸ hW.2 4 _
  have b_op0 : (-2147483648 : Int) ≤ op0 ∧ op0 ≤ 2147483647 := e_op0 ▸ hW.1 15
  have z_tk0 := tz_f tk0
  have b_tk0 : (0 : Int) ≤ tk0 ∧ tk0 ≤ 5 := e_tk0 ▸ hW.1 11
  refine jx_ar (pc' := 1) (st' := [.int (i32 (0))]) rfl rfl rfl rfl ?_
  refine jx_ld (pc' := 2) (l' := jSto1 [(0, .ref 66), (1, .int (i32 (lv)))] 2 (.int (i32 (0)))) (st' := []) rfl rfl ?_
  obtain ⟨L1, eL1⟩ : ∃ q, q = jSto1 [(0, .ref 66), (1, .int (i32 (lv)))] 2 (.int (i32 (0))) := ⟨_, rfl⟩
  rw [← eL1]
  have gL1_0 : jGet L1 0 = some (.ref 66) := eL1 ▸ jg_ne (by decide) (rfl : jGet [(0, .ref 66), (1, .int (i32 (lv)))] 0 = some (.ref 66)) rfl
  have gL1_1 : jGet L1 1 = some (.int (i32 (lv))) := eL1 ▸ jg_ne (by decide) (rfl : jGet [(0, .ref 66), (1, .int (i32 (lv)))] 1 = some (.int (i32 (lv)))) rfl
  have gL1_2 : jGet L1 2 = some (.int (i32 (0))) := eL1 ▸ jg_eq
  refine jx_ld (pc' := 3) (l' := L1) (st' := [.ref 66]) rfl (jl_aloadn gL1_0) ?_
  have z2 := tz_f (tk0)
  refine jr_get (pc' := 6) (i := 11) (v := .int (i32 (tk0))) rfl rfl (by decide) (rFv_eq (by decide) (show G 11 = tk0 from (e_tk0))) rfl ?_
  refine jx_ar (pc' := 7) (st' := [.int (i32 (1)), .int (i32 (tk0))]) rfl rfl rfl rfl ?_
  refine jx_icmp_ne (pc' := 10) (tg := 15) rfl rfl rfl (Int.le_trans (by decide : (-2147483648 : Int) ≤ 0) b_tk0.1) (Int.le_trans b_tk0.2 (by decide : (5 : Int) ≤ 2147483647)) (by decide) (by decide) (fun h3 => ?_) (fun h3 => ?_)
  · have _q := h3
    refine jx_ld (pc' := 16) (l' := L1) (st' := [.ref 66]) rfl (jl_aloadn gL1_0) ?_
    have z4 := tz_f (tk0)
    refine jr_get (pc' := 19) (i := 11) (v := .int (i32 (tk0))) rfl rfl (by decide) (rFv_eq (by decide) (show G 11 = tk0 from (e_tk0))) rfl ?_
    refine jx_ar (pc' := 20) (st' := [.int (i32 (2)), .int (i32 (tk0))]) rfl rfl rfl rfl ?_
    refine jx_icmp_eq (pc' := 23) (tg := 34) rfl rfl rfl (Int.le_trans (by decide : (-2147483648 : Int) ≤ 0) b_tk0.1) (Int.le_trans b_tk0.2 (by decide : (5 : Int) ≤ 2147483647)) (by decide) (by decide) (fun h5 => ?_) (fun h5 => ?_)
    · have _q := h5
      refine jx_ld (pc' := 35) (l' := L1) (st' := [.ref 66]) rfl (jl_aloadn gL1_0) ?_
      have b6 : (-2147483648 : Int) ≤ G 13 ∧ G 13 ≤ 2147483647 := hW.1 13
      refine jr_get (pc' := 38) (i := 13) (v := .int (i32 (G 13))) rfl rfl (by decide) rfl rfl ?_
      refine jx_ld (pc' := 39) (l' := jSto1 L1 3 (.int (i32 (G 13)))) (st' := []) rfl rfl ?_
      obtain ⟨L7, eL7⟩ : ∃ q, q = jSto1 L1 3 (.int (i32 (G 13))) := ⟨_, rfl⟩
      rw [← eL7]
      have gL7_0 : jGet L7 0 = some (.ref 66) := eL7 ▸ jg_ne (by decide) gL1_0 rfl
      have gL7_1 : jGet L7 1 = some (.int (i32 (lv))) := eL7 ▸ jg_ne (by decide) gL1_1 rfl
      have gL7_2 : jGet L7 2 = some (.int (i32 (0))) := eL7 ▸ jg_ne (by decide) gL1_2 rfl
      have gL7_3 : jGet L7 3 = some (.int (i32 (G 13))) := eL7 ▸ jg_eq
      refine jx_ld (pc' := 40) (l' := L7) (st' := [.int (i32 (G 13))]) rfl (jl_iloadn gL7_3) ?_
      rcases (by omega : G 13 = 1 ∨ G 13 = 2 ∨ G 13 = 3 ∨ G 13 = 4 ∨ G 13 = 5 ∨ G 13 = 6 ∨ G 13 = 7 ∨ G 13 = 8 ∨ (G 13 < 1 ∨ 8 < G 13)) with h8 | h8 | h8 | h8 | h8 | h8 | h8 | h8 | h8
      · refine jx_swe (z := 1) (tg := 120) h8 rfl rfl rfl rfl ?_
        refine jx_ld (pc' := 121) (l' := L7) (st' := [.ref 66]) rfl (jl_aloadn gL7_0) ?_
        refine jx_ld (pc' := 122) (l' := L7) (st' := [.int (i32 (lv)), .ref 66]) rfl (jl_iloadn gL7_1) ?_
        refine jx_vr (pc' := 125) (as := [.int (i32 (lv))]) (st := []) rfl rfl rfl rfl ⟨rfl, rfl, Nat.le_of_ble_eq_true rfl⟩ rfl rfl (c_readSeq_w (dd := d) (hP := hP) (hd := by omega) (hW := hW) (lv := lv) (ln := ln) (e_ln := show G 9 = ln from (e_ln)) (li := li) (e_li := show G 3 = li from (e_li)) (at0 := at0) (e_at0 := show G 10 = at0 from (e_at0)) (fk := fk) (e_fk := show G 16 = fk from (e_fk)) (nd := nd) (e_nd := show G 31 = nd from (e_nd)) (sy := sy) (e_sy := show G 19 = sy from (e_sy)) (na := na) (e_na := show G 28 = na from (e_na)) (vi := vi) (e_vi := show G 29 = vi from (e_vi)) (le := le) (e_le := show A 4 (ln).toNat = le from (e_le)) (op0 := op0) (e_op0 := show G 15 = op0 from (e_op0)) (tk0 := tk0) (e_tk0 := show G 11 = tk0 from (e_tk0)) (ec := ec) (e_ec := show ecn A (G 31) = ec from e_ec) (i_LT := (LT_ext (rfl) (rfl) (rfl) i_LT)) (i_SV := (SV_fx i_SV e_vi (show G 29 = vi from (e_vi)) (by omega) hV0)) (i_PQ := (PQ_fx i_PQ hS0 (by omega) (hF0.2 29 rfl) (hF0.2 30 rfl))) (hvb := hvb) (h_lv := ⟨(Int.le_trans (by decide : (-2147483648 : Int) ≤ -2147483648) h_lv.1), (Int.le_trans h_lv.2 (by decide : (2147483647 : Int) ≤ 2147483647))⟩)  (p_0 := by omega) (p_1 := by omega) (p_2 := by omega) (p_3 := by omega) (p_4 := by omega) (p_5 := by omega) (p_6 := by omega) (p_7 := by omega) (p_8 := by omega) (p_9 := by omega) (p_10 := by omega)) (fun o V' hq => ?_)
        obtain ⟨G9, A10, r11, ln2_12, at2_13, fk2_14, nd2_15, sy2_16, na2_17, vi2_18, lf2_19, ec2_20, rfl, rfl, hW21, hF22, hQ23, hQ24, hQ25, b26, e27, e28, e29, e30, e31, e32, e33, e34, e35, p36, p37, p38, p39, p40, p41, p42, p43, p44, p45, q46⟩ := hq
        have hF47 := Fr_tr hF0 hF22 (Fr_sub (by decide)) (Fr_sub (by decide))
        have hP48 := Pf_tr hP0 hQ23 (by omega)
        have hS49 := Fx_tr hS0 hQ24 (by omega)
        have hV50 := Fx_tr hV0 hQ25 (by omega)
        have bln2_12 : (0 : Int) ≤ ln2_12 ∧ ln2_12 ≤ 3000 := e27 ▸ hW21.1 9
        have bat2_13 : (0 : Int) ≤ at2_13 ∧ at2_13 ≤ 3002 := e28 ▸ hW21.1 10
        have bfk2_14 : (0 : Int) ≤ fk2_14 ∧ fk2_14 ≤ 6 := e29 ▸ hW21.1 16
        have bnd2_15 : (0 : Int) ≤ nd2_15 ∧ nd2_15 ≤ 6999 := e30 ▸ hW21.1 31
        have bsy2_16 : (0 : Int) ≤ sy2_16 ∧ sy2_16 ≤ 202 := e31 ▸ hW21.1 19
        have bna2_17 : (0 : Int) ≤ na2_17 ∧ na2_17 ≤ 200 := e32 ▸ hW21.1 28
        have bvi2_18 : (0 : Int) ≤ vi2_18 ∧ vi2_18 ≤ 202 := e33 ▸ hW21.1 29
        have blf2_19 : (0 : Int) ≤ lf2_19 ∧ lf2_19 ≤ 3000 := e34 ▸ hW21.2 3 _
        refine .inr ⟨_, rfl, ?_⟩
        rcases q46 with ⟨a51, a52⟩ | ⟨a53, a54, a55, a56, a57, a58, a59, a60, a61, a62, a63⟩
        · have _q : True := trivial
          refine jx_rt (v := some (.int (i32 (r11)))) rfl rfl rfl rfl rfl rfl ?_
          exact ⟨_, _, _, ln2_12, at2_13, fk2_14, nd2_15, sy2_16, na2_17, vi2_18, lf2_19, ec2_20, rfl, rfl, hW21, hF47, hP48, hS49, hV50, by omega, (e27), (e28), (e29), (e30), (e31), (e32), (e33), (e34), e35, by omega, by omega, by omega, by omega, by omega, by omega, by omega, by omega, by omega, by omega, by first | exact Or.inl (⟨by omega, by omega⟩)⟩
        · have _q : True := trivial
          refine jx_rt (v := some (.int (i32 (r11)))) rfl rfl rfl rfl rfl rfl ?_
          exact ⟨_, _, _, ln2_12, at2_13, fk2_14, nd2_15, sy2_16, na2_17, vi2_18, lf2_19, ec2_20, rfl, rfl, hW21, hF47, hP48, hS49, hV50, by omega, (e27), (e28), (e29), (e30), (e31), (e32), (e33), (e34), e35, by omega, by omega, by omega, by omega, by omega, by omega, by omega, by omega, by omega, by omega, by first | exact Or.inr ((⟨by omega, by omega, by omega, by omega, by omega, by omega, by omega, a60, a61, by omega, by omega⟩))⟩
      · refine jx_swe (z := 2) (tg := 186) h8 rfl rfl rfl rfl ?_
        refine jx_ld (pc' := 187) (l' := L7) (st' := [.ref 66]) rfl (jl_aloadn gL7_0) ?_
        refine jx_ld (pc' := 188) (l' := L7) (st' := [.int (i32 (lv)), .ref 66]) rfl (jl_iloadn gL7_1) ?_
        refine jx_vr (pc' := 191) (as := [.int (i32 (lv))]) (st := []) rfl rfl rfl rfl ⟨rfl, rfl, Nat.le_of_ble_eq_true rfl⟩ rfl rfl (c_readPar_w (dd := d) (hP := hP) (hd := by omega) (hW := hW) (lv := lv) (ln := ln) (e_ln := show G 9 = ln from (e_ln)) (li := li) (e_li := show G 3 = li from (e_li)) (at0 := at0) (e_at0 := show G 10 = at0 from (e_at0)) (fk := fk) (e_fk := show G 16 = fk from (e_fk)) (nd := nd) (e_nd := show G 31 = nd from (e_nd)) (sy := sy) (e_sy := show G 19 = sy from (e_sy)) (na := na) (e_na := show G 28 = na from (e_na)) (vi := vi) (e_vi := show G 29 = vi from (e_vi)) (le := le) (e_le := show A 4 (ln).toNat = le from (e_le)) (op0 := op0) (e_op0 := show G 15 = op0 from (e_op0)) (tk0 := tk0) (e_tk0 := show G 11 = tk0 from (e_tk0)) (ec := ec) (e_ec := show ecn A (G 31) = ec from e_ec) (i_LT := (LT_ext (rfl) (rfl) (rfl) i_LT)) (i_SV := (SV_fx i_SV e_vi (show G 29 = vi from (e_vi)) (by omega) hV0)) (i_PQ := (PQ_fx i_PQ hS0 (by omega) (hF0.2 29 rfl) (hF0.2 30 rfl))) (hvb := hvb) (h_lv := ⟨(Int.le_trans (by decide : (-2147483648 : Int) ≤ -2147483648) h_lv.1), (Int.le_trans h_lv.2 (by decide : (2147483647 : Int) ≤ 2147483647))⟩)  (p_0 := by omega) (p_1 := by omega) (p_2 := by omega) (p_3 := by omega) (p_4 := by omega) (p_5 := by omega) (p_6 := by omega) (p_7 := by omega) (p_8 := by omega) (p_9 := by omega) (p_10 := by omega)) (fun o V' hq => ?_)
        obtain ⟨G64, A65, r66, ln2_67, at2_68, fk2_69, nd2_70, sy2_71, na2_72, vi2_73, lf2_74, ec2_75, rfl, rfl, hW76, hF77, hQ78, hQ79, hQ80, b81, e82, e83, e84, e85, e86, e87, e88, e89, e90, p91, p92, p93, p94, p95, p96, p97, p98, p99, p100, q101⟩ := hq
        have hF102 := Fr_tr hF0 hF77 (Fr_sub (by decide)) (Fr_sub (by decide))
        have hP103 := Pf_tr hP0 hQ78 (by omega)
        have hS104 := Fx_tr hS0 hQ79 (by omega)
        have hV105 := Fx_tr hV0 hQ80 (by omega)
        have bln2_67 : (0 : Int) ≤ ln2_67 ∧ ln2_67 ≤ 3000 := e82 ▸ hW76.1 9
        have bat2_68 : (0 : Int) ≤ at2_68 ∧ at2_68 ≤ 3002 := e83 ▸ hW76.1 10
        have bfk2_69 : (0 : Int) ≤ fk2_69 ∧ fk2_69 ≤ 6 := e84 ▸ hW76.1 16
        have bnd2_70 : (0 : Int) ≤ nd2_70 ∧ nd2_70 ≤ 6999 := e85 ▸ hW76.1 31
        have bsy2_71 : (0 : Int) ≤ sy2_71 ∧ sy2_71 ≤ 202 := e86 ▸ hW76.1 19
        have bna2_72 : (0 : Int) ≤ na2_72 ∧ na2_72 ≤ 200 := e87 ▸ hW76.1 28
        have bvi2_73 : (0 : Int) ≤ vi2_73 ∧ vi2_73 ≤ 202 := e88 ▸ hW76.1 29
        have blf2_74 : (0 : Int) ≤ lf2_74 ∧ lf2_74 ≤ 3000 := e89 ▸ hW76.2 3 _
        refine .inr ⟨_, rfl, ?_⟩
        rcases q101 with ⟨a106, a107⟩ | ⟨a108, a109, a110, a111, a112, a113, a114, a115, a116, a117, a118⟩
        · have _q : True := trivial
          refine jx_rt (v := some (.int (i32 (r66)))) rfl rfl rfl rfl rfl rfl ?_
          exact ⟨_, _, _, ln2_67, at2_68, fk2_69, nd2_70, sy2_71, na2_72, vi2_73, lf2_74, ec2_75, rfl, rfl, hW76, hF102, hP103, hS104, hV105, by omega, (e82), (e83), (e84), (e85), (e86), (e87), (e88), (e89), e90, by omega, by omega, by omega, by omega, by omega, by omega, by omega, by omega, by omega, by omega, by first | exact Or.inl (⟨by omega, by omega⟩)⟩
        · have _q : True := trivial
          refine jx_rt (v := some (.int (i32 (r66)))) rfl rfl rfl rfl rfl rfl ?_
          exact ⟨_, _, _, ln2_67, at2_68, fk2_69, nd2_70, sy2_71, na2_72, vi2_73, lf2_74, ec2_75, rfl, rfl, hW76, hF102, hP103, hS104, hV105, by omega, (e82), (e83), (e84), (e85), (e86), (e87), (e88), (e89), e90, by omega, by omega, by omega, by omega, by omega, by omega, by omega, by omega, by omega, by omega, by first | exact Or.inr ((⟨by omega, by omega, by omega, by omega, by omega, by omega, by omega, a115, a116, by omega, by omega⟩))⟩
      · refine jx_swe (z := 3) (tg := 126) h8 rfl rfl rfl rfl ?_
        refine jx_ld (pc' := 127) (l' := L7) (st' := [.ref 66]) rfl (jl_aloadn gL7_0) ?_
        refine jx_vr (pc' := 130) (as := []) (st := []) rfl rfl rfl rfl ⟨rfl, rfl, Nat.le_of_ble_eq_true rfl⟩ rfl rfl (c_next (dd := d) (hd := by omega) (hW := hW)  (ln := ln) (e_ln := show G 9 = ln from (e_ln)) (le := le) (e_le := show A 4 (ln).toNat = le from (e_le)) (at0 := at0) (e_at0 := show G 10 = at0 from (e_at0))    (p_0 := by omega)) (fun o V' hq => ?_)
        obtain ⟨G119, A120, at2_121, tk2_122, rfl, rfl, hW123, hF124, e125, e126, p127, p128, p129, -⟩ := hq
        have hF131 := Fr_tr hF0 hF124 (Fr_sub (by decide)) (Fr_sub (by decide))
        have hP132 := Pf_f hP0 hF124 (by decide)
        have hS133 := Fx_f hS0 hF124 (by decide)
        have hV134 := Fx_f hV0 hF124 (by decide)
        have ec135 : ecn A120 (G119 31) = ec := (ecn_f (hF124.2 15 rfl) (hF124.1 31 rfl)).trans e_ec
        have bat2_121 : (0 : Int) ≤ at2_121 ∧ at2_121 ≤ 3002 := e125 ▸ hW123.1 10
        have ztk2_122 := tz_b tk2_122
        have btk2_122 : (0 : Int) ≤ tk2_122 ∧ tk2_122 ≤ 5 := e126 ▸ hW123.1 11
        refine .inl ⟨rfl, ?_⟩
        refine jx_ld (pc' := 131) (l' := L7) (st' := [.ref 66]) rfl (jl_aloadn gL7_0) ?_
        refine jx_vr (pc' := 134) (as := []) (st := []) rfl rfl rfl rfl ⟨rfl, rfl, Nat.le_of_ble_eq_true rfl⟩ rfl rfl (c_bad (dd := d) (hd := by omega) (hW := hW123)  (fk := fk) (e_fk := show G119 16 = fk from ((hF124.1 16 rfl).trans (e_fk)))    ) (fun o V' hq => ?_)
        obtain ⟨r136, rfl, rfl, b137, q138⟩ := hq
        refine .inr ⟨_, rfl, ?_⟩
        rcases q138 with ⟨rfl, a139⟩ | ⟨rfl, a140⟩
        · have _q : True := trivial
          exfalso
          omega
        · have _q : True := trivial
          refine jx_if_ne (pc' := 137) (tg := 156) rfl rfl rfl (by decide) (by decide) (fun h141 => ?_) (fun h141 => ?_)
          · have _q := h141
            exact absurd h141 (by omega)
          · have _q := h141
            refine jx_ld (pc' := 138) (l' := L7) (st' := [.ref 66]) rfl (jl_aloadn gL7_0) ?_
            refine jx_ar (pc' := 139) (st' := [.int (i32 (2)), .ref 66]) rfl rfl rfl rfl ?_
            have b142 : (-2147483648 : Int) ≤ G119 13 ∧ G119 13 ≤ 2147483647 := hW123.1 13
            refine jx_vr (pc' := 142) (as := [.int (i32 (2))]) (st := []) rfl rfl rfl rfl ⟨rfl, rfl, Nat.le_of_ble_eq_true rfl⟩ rfl rfl (c_isKey (dd := d) (hd := by omega) (hW := hW123) (k := 2) (tk := tk2_122) (e_tk := show G119 11 = tk2_122 from (e126)) (tn := G119 13) (e_tn := show G119 13 = G119 13 from rfl)  (h_k := ⟨(by decide), (by decide)⟩)  ) (fun o V' hq => ?_)
            obtain ⟨r143, rfl, rfl, b144, q145⟩ := hq
            refine .inr ⟨_, rfl, ?_⟩
            rcases q145 with ⟨rfl, a146, a147, a148⟩ | rfl
            · have _q : True := trivial
              refine jx_if_ne (pc' := 145) (tg := 156) rfl rfl rfl (by decide) (by decide) (fun h149 => ?_) (fun h149 => ?_)
              · have _q := h149
                refine jx_ld (pc' := 157) (l' := L7) (st' := [.ref 66]) rfl (jl_aloadn gL7_0) ?_
                refine jx_ar (pc' := 159) (st' := [.int (i32 (28)), .ref 66]) rfl rfl rfl rfl ?_
                refine jx_ar (pc' := 160) (st' := [.int (i32 (1)), .int (i32 (28)), .ref 66]) rfl rfl rfl rfl ?_
                refine jx_ar (pc' := 161) (st' := [.int (i32 (0)), .int (i32 (1)), .int (i32 (28)), .ref 66]) rfl rfl rfl rfl ?_
                refine jx_ar (pc' := 162) (st' := [.int (i32 (0)), .int (i32 (0)), .int (i32 (1)), .int (i32 (28)), .ref 66]) rfl rfl rfl rfl ?_
                refine jx_ar (pc' := 163) (st' := [.int (i32 (0)), .int (i32 (0)), .int (i32 (0)), .int (i32 (1)), .int (i32 (28)), .ref 66]) rfl rfl rfl rfl ?_
                refine jx_vr (pc' := 166) (as := [.int (i32 (28)), .int (i32 (1)), .int (i32 (0)), .int (i32 (0)), .int (i32 (0))]) (st := []) rfl rfl rfl rfl ⟨rfl, rfl, Nat.le_of_ble_eq_true rfl⟩ rfl rfl (c_node_o (dd := d) (hd := by omega) (hW := hW123) (kind := 28) (a := 1) (b := 0) (c := 0) (e := 0) (nd := nd) (e_nd := show G119 31 = nd from ((hF124.1 31 rfl).trans (e_nd))) (ec := ec) (e_ec := show ecn A120 (G119 31) = ec from ec135)  (h_kind := ⟨(by decide), (by decide)⟩) (h_a := ⟨(by decide), (by decide)⟩) (h_b := ⟨(by decide), (by decide)⟩) (h_c := ⟨(by decide), (by decide)⟩) (h_e := ⟨(by decide), (by decide)⟩)  (p_0 := by omega) (p_1 := by omega) (p_2 := by omega)) (fun o V' hq => ?_)
                obtain ⟨G150, A151, nd2_152, ec2_153, rfl, rfl, hW154, hF155, hQ156, e157, e158, p159, p160, p161, -⟩ := hq
                have hF163 := Fr_tr hF131 hF155 (Fr_sub (by decide)) (Fr_sub (by decide))
                have hP164 := Pf_tr hP132 hQ156 (by omega)
                have hS165 := Fx_f hS133 hF155 (by decide)
                have hV166 := Fx_f hV134 hF155 (by decide)
                have bnd2_152 : (0 : Int) ≤ nd2_152 ∧ nd2_152 ≤ 6999 := e157 ▸ hW154.1 31
                refine .inr ⟨_, rfl, ?_⟩
                refine jx_ld (pc' := 167) (l' := jSto1 L7 2 (.int (i32 (nd)))) (st' := []) rfl rfl ?_
                obtain ⟨L167, eL167⟩ : ∃ q, q = jSto1 L7 2 (.int (i32 (nd))) := ⟨_, rfl⟩
                rw [← eL167]
                have gL167_0 : jGet L167 0 = some (.ref 66) := eL167 ▸ jg_ne (by decide) gL7_0 rfl
                have gL167_1 : jGet L167 1 = some (.int (i32 (lv))) := eL167 ▸ jg_ne (by decide) gL7_1 rfl
                have gL167_3 : jGet L167 3 = some (.int (i32 (G 13))) := eL167 ▸ jg_ne (by decide) gL7_3 rfl
                have gL167_2 : jGet L167 2 = some (.int (i32 (nd))) := eL167 ▸ jg_eq
                refine jx_ld (pc' := 168) (l' := L167) (st' := [.ref 66]) rfl (jl_aloadn gL167_0) ?_
                refine jx_ar (pc' := 169) (st' := [.int (i32 (1)), .ref 66]) rfl rfl rfl rfl ?_
                refine jx_vr (pc' := 172) (as := [.int (i32 (1))]) (st := []) rfl rfl rfl rfl ⟨rfl, rfl, Nat.le_of_ble_eq_true rfl⟩ rfl rfl (c_need (dd := d) (hd := by omega) (hW := hW154) (g := 1) (ln := ln) (e_ln := show G150 9 = ln from ((hF155.1 9 rfl).trans ((hF124.1 9 rfl).trans (e_ln)))) (le := le) (e_le := show A151 4 (ln).toNat = le from (congrFun ((hF155.2 4 rfl).trans (hF124.2 4 rfl)) _).trans (e_le)) (at0 := at2_121) (e_at0 := show G150 10 = at2_121 from ((hF155.1 10 rfl).trans (e125))) (fk := fk) (e_fk := show G150 16 = fk from ((hF155.1 16 rfl).trans ((hF124.1 16 rfl).trans (e_fk)))) (tk0 := tk2_122) (e_tk0 := show G150 11 = tk2_122 from ((hF155.1 11 rfl).trans (e126)))  (h_g := ⟨(by decide), (by decide)⟩)  (p_0 := by omega)) (fun o V' hq => ?_)
                obtain ⟨G168, A169, at2_170, tk2_171, fk2_172, rfl, rfl, hW173, hF174, e175, e176, e177, p178, p179, q180⟩ := hq
                have hF181 := Fr_tr hF163 hF174 (Fr_sub (by decide)) (Fr_sub (by decide))
                have hP182 := Pf_f hP164 hF174 (by decide)
                have hS183 := Fx_f hS165 hF174 (by decide)
                have hV184 := Fx_f hV166 hF174 (by decide)
                have sf185 : ND A169 (nd) (28) (1) (0) (0) (0) (0) (0) := ND_ag (by omega) (Ag_fr hF174 (by decide)) p161
                have ec186 : ecn A169 (G168 31) = ec2_153 := (ecn_f (hF174.2 15 rfl) (hF174.1 31 rfl)).trans e158
                have bat2_170 : (0 : Int) ≤ at2_170 ∧ at2_170 ≤ 3002 := e175 ▸ hW173.1 10
                have ztk2_171 := tz_b tk2_171
                have btk2_171 : (0 : Int) ≤ tk2_171 ∧ tk2_171 ≤ 5 := e176 ▸ hW173.1 11
                have bfk2_172 : (0 : Int) ≤ fk2_172 ∧ fk2_172 ≤ 6 := e177 ▸ hW173.1 16
                refine .inl ⟨rfl, ?_⟩
                rcases q180 with ⟨a187, a188, a189, a190⟩ | ⟨a191, a192, a193, a194⟩
                · have _q : True := trivial
                  refine jx_ld (pc' := 173) (l' := L167) (st' := [.ref 66]) rfl (jl_aloadn gL167_0) ?_
                  refine jx_vr (pc' := 176) (as := []) (st := []) rfl rfl rfl rfl ⟨rfl, rfl, Nat.le_of_ble_eq_true rfl⟩ rfl rfl (c_endLine (dd := d) (hd := by omega) (hW := hW173)  (ln := ln) (e_ln := show G168 9 = ln from ((hF174.1 9 rfl).trans ((hF155.1 9 rfl).trans ((hF124.1 9 rfl).trans (e_ln))))) (li := li) (e_li := show G168 3 = li from ((hF174.1 3 rfl).trans ((hF155.1 3 rfl).trans ((hF124.1 3 rfl).trans (e_li))))) (fk := fk2_172) (e_fk := show G168 16 = fk2_172 from (e177)) (tk0 := tk2_171) (e_tk0 := show G168 11 = tk2_171 from (e176))    (p_0 := by omega)) (fun o V' hq => ?_)
                  obtain ⟨G195, A196, ln2_197, fk2_198, rfl, rfl, hW199, hF200, e201, e202, q203⟩ := hq
                  have hF204 := Fr_tr hF181 hF200 (Fr_sub (by decide)) (Fr_sub (by decide))
                  have hP205 := Pf_f hP182 hF200 (by decide)
                  have hS206 := Fx_f hS183 hF200 (by decide)
                  have hV207 := Fx_f hV184 hF200 (by decide)
                  have sf208 : ND A196 (nd) (28) (1) (0) (0) (0) (0) (0) := ND_ag (by omega) (Ag_fr hF200 (by decide)) sf185
                  have ec209 : ecn A196 (G195 31) = ec2_153 := (ecn_f (hF200.2 15 rfl) (hF200.1 31 rfl)).trans ec186
                  have bln2_197 : (0 : Int) ≤ ln2_197 ∧ ln2_197 ≤ 3000 := e201 ▸ hW199.1 9
                  have bfk2_198 : (0 : Int) ≤ fk2_198 ∧ fk2_198 ≤ 6 := e202 ▸ hW199.1 16
                  refine .inl ⟨rfl, ?_⟩
                  rcases q203 with ⟨a210, a211, a212, a213, a214⟩ | ⟨a215, a216⟩
                  · have _q : True := trivial
                    exfalso
                    omega
                  · have _q : True := trivial
                    refine jx_ld (pc' := 177) (l' := L167) (st' := [.ref 66]) rfl (jl_aloadn gL167_0) ?_
                    refine jx_ld (pc' := 178) (l' := L167) (st' := [.int (i32 (nd)), .ref 66]) rfl (jl_iloadn gL167_2) ?_
                    refine jx_ld (pc' := 179) (l' := L167) (st' := [.int (i32 (lv)), .int (i32 (nd)), .ref 66]) rfl (jl_iloadn gL167_1) ?_
                    refine jx_ar (pc' := 180) (st' := [.int (i32 (2)), .int (i32 (lv)), .int (i32 (nd)), .ref 66]) rfl rfl rfl rfl ?_
                    refine jx_ar (pc' := 181) (st' := [.int (i32 (2)), .int (i32 (2)), .int (i32 (lv)), .int (i32 (nd)), .ref 66]) rfl rfl rfl rfl ?_
                    refine jx_vr (pc' := 184) (as := [.int (i32 (nd)), .int (i32 (lv)), .int (i32 (2)), .int (i32 (2))]) (st := []) rfl rfl rfl rfl ⟨rfl, rfl, Nat.le_of_ble_eq_true rfl⟩ rfl rfl (c_readChildren_f (dd := d) (zz := nd) (hd := by omega) (hW := hW199) (n := nd) (lv := lv) (least := 2) (mo := 2) (fk := fk2_198) (e_fk := show G195 16 = fk2_198 from (e202))  (h_n := ⟨(Int.le_trans (by decide : (-2147483648 : Int) ≤ 0) b_nd.1), (Int.le_trans b_nd.2 (by decide : (6999 : Int) ≤ 2147483647))⟩) (h_lv := ⟨(Int.le_trans (by decide : (-2147483648 : Int) ≤ -2147483648) h_lv.1), (Int.le_trans h_lv.2 (by decide : (2147483647 : Int) ≤ 2147483647))⟩) (h_least := ⟨(by decide), (by decide)⟩) (h_mo := ⟨(by decide), (by decide)⟩)  (p_0 := by omega) (p_1 := by omega) (p_2 := by omega) (p_3 := by omega)) (fun o V' hq => ?_)
                    obtain ⟨G217, A218, fk2_219, rfl, rfl, hW220, hF221, hQ222, e223, p224, -⟩ := hq
                    have hF226 := Fr_tr hF204 hF221 (Fr_sub (by decide)) (Fr_sub (by decide))
                    have hP227 := Pf_tr hP205 hQ222 (by omega)
                    have hS228 := Fx_f hS206 hF221 (by decide)
                    have hV229 := Fx_f hV207 hF221 (by decide)
                    have ec230 : ecn A218 (G217 31) = ec2_153 := (ecn_f (hF221.2 15 rfl) (hF221.1 31 rfl)).trans ec209
                    have bfk2_219 : (0 : Int) ≤ fk2_219 ∧ fk2_219 ≤ 6 := e223 ▸ hW220.1 16
                    refine .inl ⟨rfl, ?_⟩
                    refine jx_ld (pc' := 185) (l' := L167) (st' := [.int (i32 (nd))]) rfl (jl_iloadn gL167_2) ?_
                    refine jx_rt (v := some (.int (i32 (nd)))) rfl rfl rfl rfl rfl rfl ?_
                    exact ⟨_, _, _, ln2_197, at2_170, fk2_219, nd2_152, sy, na, vi, A 3 (ln2_197).toNat, ec2_153, rfl, rfl, hW220, hF226, hP227, hS228, hV229, by omega, ((hF221.1 9 rfl).trans (e201)), ((hF221.1 10 rfl).trans ((hF200.1 10 rfl).trans (e175))), (e223), ((hF221.1 31 rfl).trans ((hF200.1 31 rfl).trans ((hF174.1 31 rfl).trans (e157)))), ((hF221.1 19 rfl).trans ((hF200.1 19 rfl).trans ((hF174.1 19 rfl).trans ((hF155.1 19 rfl).trans ((hF124.1 19 rfl).trans (e_sy)))))), ((hF221.1 28 rfl).trans ((hF200.1 28 rfl).trans ((hF174.1 28 rfl).trans ((hF155.1 28 rfl).trans ((hF124.1 28 rfl).trans (e_na)))))), ((hF221.1 29 rfl).trans ((hF200.1 29 rfl).trans ((hF174.1 29 rfl).trans ((hF155.1 29 rfl).trans ((hF124.1 29 rfl).trans (e_vi)))))), (congrFun ((hF221.2 3 rfl).trans ((hF200.2 3 rfl).trans ((hF174.2 3 rfl).trans ((hF155.2 3 rfl).trans (hF124.2 3 rfl))))) _), ec230, by omega, by omega, by omega, by omega, by omega, by omega, by omega, by omega, by omega, by omega, by first | exact Or.inl (⟨by omega, by omega⟩)⟩
                · have _q : True := trivial
                  refine jx_ld (pc' := 173) (l' := L167) (st' := [.ref 66]) rfl (jl_aloadn gL167_0) ?_
                  refine jx_vr (pc' := 176) (as := []) (st := []) rfl rfl rfl rfl ⟨rfl, rfl, Nat.le_of_ble_eq_true rfl⟩ rfl rfl (c_endLine (dd := d) (hd := by omega) (hW := hW173)  (ln := ln) (e_ln := show G168 9 = ln from ((hF174.1 9 rfl).trans ((hF155.1 9 rfl).trans ((hF124.1 9 rfl).trans (e_ln))))) (li := li) (e_li := show G168 3 = li from ((hF174.1 3 rfl).trans ((hF155.1 3 rfl).trans ((hF124.1 3 rfl).trans (e_li))))) (fk := fk2_172) (e_fk := show G168 16 = fk2_172 from (e177)) (tk0 := tk2_171) (e_tk0 := show G168 11 = tk2_171 from (e176))    (p_0 := by omega)) (fun o V' hq => ?_)
                  obtain ⟨G231, A232, ln2_233, fk2_234, rfl, rfl, hW235, hF236, e237, e238, q239⟩ := hq
                  have hF240 := Fr_tr hF181 hF236 (Fr_sub (by decide)) (Fr_sub (by decide))
                  have hP241 := Pf_f hP182 hF236 (by decide)
                  have hS242 := Fx_f hS183 hF236 (by decide)
                  have hV243 := Fx_f hV184 hF236 (by decide)
                  have sf244 : ND A232 (nd) (28) (1) (0) (0) (0) (0) (0) := ND_ag (by omega) (Ag_fr hF236 (by decide)) sf185
                  have ec245 : ecn A232 (G231 31) = ec2_153 := (ecn_f (hF236.2 15 rfl) (hF236.1 31 rfl)).trans ec186
                  have bln2_233 : (0 : Int) ≤ ln2_233 ∧ ln2_233 ≤ 3000 := e237 ▸ hW235.1 9
                  have bfk2_234 : (0 : Int) ≤ fk2_234 ∧ fk2_234 ≤ 6 := e238 ▸ hW235.1 16
                  refine .inl ⟨rfl, ?_⟩
                  rcases q239 with ⟨a246, a247, a248, a249, a250⟩ | ⟨a251, a252⟩
                  · have _q : True := trivial
                    have b253 : (0 : Int) ≤ A 3 (ln2_233).toNat ∧ A 3 (ln2_233).toNat ≤ 3000 := hW.2 3 _
                    have lt254 : ln2_233 < li → le < A 3 (ln2_233).toNat := fun hh => LT_nx (LT_ext (((hF236.1 3 rfl).trans ((hF174.1 3 rfl).trans ((hF155.1 3 rfl).trans (hF124.1 3 rfl))))) (((hF236.2 3 rfl).trans ((hF174.2 3 rfl).trans ((hF155.2 3 rfl).trans (hF124.2 3 rfl))))) (((hF236.2 4 rfl).trans ((hF174.2 4 rfl).trans ((hF155.2 4 rfl).trans (hF124.2 4 rfl))))) i_LT) (show G231 3 = li from ((hF236.1 3 rfl).trans ((hF174.1 3 rfl).trans ((hF155.1 3 rfl).trans ((hF124.1 3 rfl).trans (e_li)))))) (show A232 4 (ln).toNat = le from (congrFun ((hF236.2 4 rfl).trans ((hF174.2 4 rfl).trans ((hF155.2 4 rfl).trans (hF124.2 4 rfl)))) _).trans (e_le)) (show A232 3 (ln2_233).toNat = A 3 (ln2_233).toNat from (congrFun ((hF236.2 3 rfl).trans ((hF174.2 3 rfl).trans ((hF155.2 3 rfl).trans (hF124.2 3 rfl)))) _)) (show ln2_233 = ln + 1 by omega) (by omega) hh
                    refine jx_ld (pc' := 177) (l' := L167) (st' := [.ref 66]) rfl (jl_aloadn gL167_0) ?_
                    refine jx_ld (pc' := 178) (l' := L167) (st' := [.int (i32 (nd)), .ref 66]) rfl (jl_iloadn gL167_2) ?_
                    refine jx_ld (pc' := 179) (l' := L167) (st' := [.int (i32 (lv)), .int (i32 (nd)), .ref 66]) rfl (jl_iloadn gL167_1) ?_
                    refine jx_ar (pc' := 180) (st' := [.int (i32 (2)), .int (i32 (lv)), .int (i32 (nd)), .ref 66]) rfl rfl rfl rfl ?_
                    refine jx_ar (pc' := 181) (st' := [.int (i32 (2)), .int (i32 (2)), .int (i32 (lv)), .int (i32 (nd)), .ref 66]) rfl rfl rfl rfl ?_
                    refine jx_vr (pc' := 184) (as := [.int (i32 (nd)), .int (i32 (lv)), .int (i32 (2)), .int (i32 (2))]) (st := []) rfl rfl rfl rfl ⟨rfl, rfl, Nat.le_of_ble_eq_true rfl⟩ rfl rfl (c_readChildren_w (dd := d) (hP := hP) (zz := nd) (hd := by omega) (hW := hW235) (n := nd) (lv := lv) (least := 2) (mo := 2) (kk := 28) (aa := 1) (bb := 0) (cc := 0) (de := 0) (xx := 0) (ln := ln2_233) (e_ln := show G231 9 = ln2_233 from (e237)) (li := li) (e_li := show G231 3 = li from ((hF236.1 3 rfl).trans ((hF174.1 3 rfl).trans ((hF155.1 3 rfl).trans ((hF124.1 3 rfl).trans (e_li)))))) (at0 := at2_170) (e_at0 := show G231 10 = at2_170 from ((hF236.1 10 rfl).trans (e175))) (fk := fk2_234) (e_fk := show G231 16 = fk2_234 from (e238)) (nd := nd2_152) (e_nd := show G231 31 = nd2_152 from ((hF236.1 31 rfl).trans ((hF174.1 31 rfl).trans (e157)))) (sy := sy) (e_sy := show G231 19 = sy from ((hF236.1 19 rfl).trans ((hF174.1 19 rfl).trans ((hF155.1 19 rfl).trans ((hF124.1 19 rfl).trans (e_sy)))))) (na := na) (e_na := show G231 28 = na from ((hF236.1 28 rfl).trans ((hF174.1 28 rfl).trans ((hF155.1 28 rfl).trans ((hF124.1 28 rfl).trans (e_na)))))) (vi := vi) (e_vi := show G231 29 = vi from ((hF236.1 29 rfl).trans ((hF174.1 29 rfl).trans ((hF155.1 29 rfl).trans ((hF124.1 29 rfl).trans (e_vi)))))) (lf := A 3 (ln2_233).toNat) (e_lf := show A232 3 (ln2_233).toNat = A 3 (ln2_233).toNat from (congrFun ((hF236.2 3 rfl).trans ((hF174.2 3 rfl).trans ((hF155.2 3 rfl).trans (hF124.2 3 rfl)))) _)) (ec := ec2_153) (e_ec := show ecn A232 (G231 31) = ec2_153 from ec245) (i_LT := (LT_ext (((hF236.1 3 rfl).trans ((hF174.1 3 rfl).trans ((hF155.1 3 rfl).trans (hF124.1 3 rfl))))) (((hF236.2 3 rfl).trans ((hF174.2 3 rfl).trans ((hF155.2 3 rfl).trans (hF124.2 3 rfl))))) (((hF236.2 4 rfl).trans ((hF174.2 4 rfl).trans ((hF155.2 4 rfl).trans (hF124.2 4 rfl))))) i_LT)) (i_SV := (SV_fx i_SV e_vi (show G231 29 = vi from ((hF236.1 29 rfl).trans ((hF174.1 29 rfl).trans ((hF155.1 29 rfl).trans ((hF124.1 29 rfl).trans (e_vi)))))) (by omega) hV243)) (i_PQ := (PQ_fx i_PQ hS242 (by omega) (hF240.2 29 rfl) (hF240.2 30 rfl))) (hvb := hvb) (h_n := ⟨(Int.le_trans (by decide : (-2147483648 : Int) ≤ 0) b_nd.1), (Int.le_trans b_nd.2 (by decide : (6999 : Int) ≤ 2147483647))⟩) (h_lv := ⟨(Int.le_trans (by decide : (-2147483648 : Int) ≤ -2147483648) h_lv.1), (Int.le_trans h_lv.2 (by decide : (2147483647 : Int) ≤ 2147483647))⟩) (h_least := ⟨(by decide), (by decide)⟩) (h_mo := ⟨(by decide), (by decide)⟩)  (p_0 := by omega) (p_1 := by omega) (p_2 := by omega) (p_3 := by omega) (p_4 := by omega) (p_5 := by omega) (p_6 := by omega) (p_7 := by omega) (p_8 := by omega) (p_9 := by omega) (p_10 := by omega) (p_11 := by omega) (p_12 := by omega) (p_13 := by omega) (p_14 := by omega) (p_15 := sf244)) (fun o V' hq => ?_)
                    obtain ⟨G255, A256, ln2_257, at2_258, fk2_259, nd2_260, sy2_261, na2_262, vi2_263, lf2_264, mm_265, f2_266, ec2_267, rfl, rfl, hW268, hF269, hQ270, hQ271, hQ272, hQ273, e274, e275, e276, e277, e278, e279, e280, e281, e282, e283, e284, p285, p286, p287, p288, p289, p290, p291, q292⟩ := hq
                    have hF293 := Fr_tr hF240 hF269 (Fr_sub (by decide)) (Fr_sub (by decide))
                    have hP294 := Pf_tr hP241 hQ270 (by omega)
                    have hS295 := Fx_tr hS242 hQ272 (by omega)
                    have hV296 := Fx_tr hV243 hQ273 (by omega)
                    have bln2_257 : (0 : Int) ≤ ln2_257 ∧ ln2_257 ≤ 3000 := e274 ▸ hW268.1 9
                    have bat2_258 : (0 : Int) ≤ at2_258 ∧ at2_258 ≤ 3002 := e275 ▸ hW268.1 10
                    have bfk2_259 : (0 : Int) ≤ fk2_259 ∧ fk2_259 ≤ 6 := e276 ▸ hW268.1 16
                    have bnd2_260 : (0 : Int) ≤ nd2_260 ∧ nd2_260 ≤ 6999 := e277 ▸ hW268.1 31
                    have bsy2_261 : (0 : Int) ≤ sy2_261 ∧ sy2_261 ≤ 202 := e278 ▸ hW268.1 19
                    have bna2_262 : (0 : Int) ≤ na2_262 ∧ na2_262 ≤ 200 := e279 ▸ hW268.1 28
                    have bvi2_263 : (0 : Int) ≤ vi2_263 ∧ vi2_263 ≤ 202 := e280 ▸ hW268.1 29
                    have blf2_264 : (0 : Int) ≤ lf2_264 ∧ lf2_264 ≤ 3000 := e281 ▸ hW268.2 3 _
                    have bmm_265 : (-2147483648 : Int) ≤ mm_265 ∧ mm_265 ≤ 2147483647 := e282 ▸ hW268.2 18 _
                    have bf2_266 : (-2147483648 : Int) ≤ f2_266 ∧ f2_266 ≤ 2147483647 := e283 ▸ hW268.2 21 _
                    refine .inl ⟨rfl, ?_⟩
                    rcases q292 with ⟨a297, a298⟩ | ⟨a299, a300, a301, a302, a303, a304, a305, a306⟩
                    · have _q : True := trivial
                      refine jx_ld (pc' := 185) (l' := L167) (st' := [.int (i32 (nd))]) rfl (jl_iloadn gL167_2) ?_
                      refine jx_rt (v := some (.int (i32 (nd)))) rfl rfl rfl rfl rfl rfl ?_
                      exact ⟨_, _, _, ln2_257, at2_258, fk2_259, nd2_260, sy2_261, na2_262, vi2_263, lf2_264, ec2_267, rfl, rfl, hW268, hF293, hP294, hS295, hV296, by omega, (e274), (e275), (e276), (e277), (e278), (e279), (e280), (e281), e284, by omega, by omega, by omega, by omega, by omega, by omega, by omega, by omega, by omega, by omega, by first | exact Or.inl (⟨by omega, by omega⟩)⟩
                    · have _q : True := trivial
                      refine jx_ld (pc' := 185) (l' := L167) (st' := [.int (i32 (nd))]) rfl (jl_iloadn gL167_2) ?_
                      refine jx_rt (v := some (.int (i32 (nd)))) rfl rfl rfl rfl rfl rfl ?_
                      exact ⟨_, _, _, ln2_257, at2_258, fk2_259, nd2_260, sy2_261, na2_262, vi2_263, lf2_264, ec2_267, rfl, rfl, hW268, hF293, hP294, hS295, hV296, by omega, (e274), (e275), (e276), (e277), (e278), (e279), (e280), (e281), e284, by omega, by omega, by omega, by omega, by omega, by omega, by omega, by omega, by omega, by omega, by first | exact Or.inr ((⟨by omega, by omega, by omega, by omega, by omega, by omega, by omega, (wS_par a304 (RL_eq a305 (by omega) (by omega) (by omega) (by omega) (by omega)) (by omega) (by omega) (by omega)), (NX_nd a304), by omega, by omega⟩))⟩
                  · have _q : True := trivial
                    refine jx_ld (pc' := 177) (l' := L167) (st' := [.ref 66]) rfl (jl_aloadn gL167_0) ?_
                    refine jx_ld (pc' := 178) (l' := L167) (st' := [.int (i32 (nd)), .ref 66]) rfl (jl_iloadn gL167_2) ?_
                    refine jx_ld (pc' := 179) (l' := L167) (st' := [.int (i32 (lv)), .int (i32 (nd)), .ref 66]) rfl (jl_iloadn gL167_1) ?_
                    refine jx_ar (pc' := 180) (st' := [.int (i32 (2)), .int (i32 (lv)), .int (i32 (nd)), .ref 66]) rfl rfl rfl rfl ?_
                    refine jx_ar (pc' := 181) (st' := [.int (i32 (2)), .int (i32 (2)), .int (i32 (lv)), .int (i32 (nd)), .ref 66]) rfl rfl rfl rfl ?_
                    refine jx_vr (pc' := 184) (as := [.int (i32 (nd)), .int (i32 (lv)), .int (i32 (2)), .int (i32 (2))]) (st := []) rfl rfl rfl rfl ⟨rfl, rfl, Nat.le_of_ble_eq_true rfl⟩ rfl rfl (c_readChildren_f (dd := d) (zz := nd) (hd := by omega) (hW := hW235) (n := nd) (lv := lv) (least := 2) (mo := 2) (fk := fk2_234) (e_fk := show G231 16 = fk2_234 from (e238))  (h_n := ⟨(Int.le_trans (by decide : (-2147483648 : Int) ≤ 0) b_nd.1), (Int.le_trans b_nd.2 (by decide : (6999 : Int) ≤ 2147483647))⟩) (h_lv := ⟨(Int.le_trans (by decide : (-2147483648 : Int) ≤ -2147483648) h_lv.1), (Int.le_trans h_lv.2 (by decide : (2147483647 : Int) ≤ 2147483647))⟩) (h_least := ⟨(by decide), (by decide)⟩) (h_mo := ⟨(by decide), (by decide)⟩)  (p_0 := by omega) (p_1 := by omega) (p_2 := by omega) (p_3 := by omega)) (fun o V' hq => ?_)
                    obtain ⟨G307, A308, fk2_309, rfl, rfl, hW310, hF311, hQ312, e313, p314, -⟩ := hq
                    have hF316 := Fr_tr hF240 hF311 (Fr_sub (by decide)) (Fr_sub (by decide))
                    have hP317 := Pf_tr hP241 hQ312 (by omega)
                    have hS318 := Fx_f hS242 hF311 (by decide)
                    have hV319 := Fx_f hV243 hF311 (by decide)
                    have ec320 : ecn A308 (G307 31) = ec2_153 := (ecn_f (hF311.2 15 rfl) (hF311.1 31 rfl)).trans ec245
                    have bfk2_309 : (0 : Int) ≤ fk2_309 ∧ fk2_309 ≤ 6 := e313 ▸ hW310.1 16
                    refine .inl ⟨rfl, ?_⟩
                    refine jx_ld (pc' := 185) (l' := L167) (st' := [.int (i32 (nd))]) rfl (jl_iloadn gL167_2) ?_
                    refine jx_rt (v := some (.int (i32 (nd)))) rfl rfl rfl rfl rfl rfl ?_
                    exact ⟨_, _, _, ln2_233, at2_170, fk2_309, nd2_152, sy, na, vi, A 3 (ln2_233).toNat, ec2_153, rfl, rfl, hW310, hF316, hP317, hS318, hV319, by omega, ((hF311.1 9 rfl).trans (e237)), ((hF311.1 10 rfl).trans ((hF236.1 10 rfl).trans (e175))), (e313), ((hF311.1 31 rfl).trans ((hF236.1 31 rfl).trans ((hF174.1 31 rfl).trans (e157)))), ((hF311.1 19 rfl).trans ((hF236.1 19 rfl).trans ((hF174.1 19 rfl).trans ((hF155.1 19 rfl).trans ((hF124.1 19 rfl).trans (e_sy)))))), ((hF311.1 28 rfl).trans ((hF236.1 28 rfl).trans ((hF174.1 28 rfl).trans ((hF155.1 28 rfl).trans ((hF124.1 28 rfl).trans (e_na)))))), ((hF311.1 29 rfl).trans ((hF236.1 29 rfl).trans ((hF174.1 29 rfl).trans ((hF155.1 29 rfl).trans ((hF124.1 29 rfl).trans (e_vi)))))), (congrFun ((hF311.2 3 rfl).trans ((hF236.2 3 rfl).trans ((hF174.2 3 rfl).trans ((hF155.2 3 rfl).trans (hF124.2 3 rfl))))) _), ec320, by omega, by omega, by omega, by omega, by omega, by omega, by omega, by omega, by omega, by omega, by first | exact Or.inl (⟨by omega, by omega⟩)⟩
              · have _q := h149
                exact absurd h149 (by omega)
            · have _q : True := trivial
              refine jx_if_ne (pc' := 145) (tg := 156) rfl rfl rfl (by decide) (by decide) (fun h321 => ?_) (fun h321 => ?_)
              · have _q := h321
                exact absurd h321 (by omega)
              · have _q := h321
                refine jx_ld (pc' := 146) (l' := L7) (st' := [.ref 66]) rfl (jl_aloadn gL7_0) ?_
                refine jx_ar (pc' := 147) (st' := [.int (i32 (1)), .ref 66]) rfl rfl rfl rfl ?_
                refine jx_ld (pc' := 148) (l' := L7) (st' := [.ref 66, .int (i32 (1)), .ref 66]) rfl (jl_aloadn gL7_0) ?_
                have b322 : (-3000 : Int) ≤ G119 12 ∧ G119 12 ≤ 3002 := hW123.1 12
                refine jr_get (pc' := 151) (i := 12) (v := .int (i32 (G119 12))) rfl rfl (by decide) rfl rfl ?_
                refine jx_vr (pc' := 154) (as := [.int (i32 (1)), .int (i32 (G119 12))]) (st := []) rfl rfl rfl rfl ⟨rfl, rfl, Nat.le_of_ble_eq_true rfl⟩ rfl rfl (c_fail (dd := d) (hd := by omega) (hW := hW123) (kind := 1) (place := G119 12) (fk := fk) (e_fk := show G119 16 = fk from ((hF124.1 16 rfl).trans (e_fk)))  (h_kind := ⟨(by decide), (by decide)⟩) (h_place := ⟨(Int.le_trans (by decide : (-2147483648 : Int) ≤ -3000) b322.1), (Int.le_trans b322.2 (by decide : (3002 : Int) ≤ 2147483647))⟩)  (p_0 := by omega) (p_1 := by omega)) (fun o V' hq => ?_)
                obtain ⟨G323, A324, fk2_325, rfl, rfl, hW326, hF327, e328, p329, -⟩ := hq
                have hF331 := Fr_tr hF131 hF327 (Fr_sub (by decide)) (Fr_sub (by decide))
                have hP332 := Pf_f hP132 hF327 (by decide)
                have hS333 := Fx_f hS133 hF327 (by decide)
                have hV334 := Fx_f hV134 hF327 (by decide)
                have ec335 : ecn A324 (G323 31) = ec := (ecn_f (hF327.2 15 rfl) (hF327.1 31 rfl)).trans ec135
                have bfk2_325 : (0 : Int) ≤ fk2_325 ∧ fk2_325 ≤ 6 := e328 ▸ hW326.1 16
                refine .inl ⟨rfl, ?_⟩
                refine jx_ar (pc' := 155) (st' := [.int (i32 (0))]) rfl rfl rfl rfl ?_
                refine jx_rt (v := some (.int (i32 (0)))) rfl rfl rfl rfl rfl rfl ?_
                exact ⟨_, _, _, ln, at2_121, fk2_325, nd, sy, na, vi, A 3 (ln).toNat, ec, rfl, rfl, hW326, hF331, hP332, hS333, hV334, by omega, ((hF327.1 9 rfl).trans ((hF124.1 9 rfl).trans (e_ln))), ((hF327.1 10 rfl).trans (e125)), (e328), ((hF327.1 31 rfl).trans ((hF124.1 31 rfl).trans (e_nd))), ((hF327.1 19 rfl).trans ((hF124.1 19 rfl).trans (e_sy))), ((hF327.1 28 rfl).trans ((hF124.1 28 rfl).trans (e_na))), ((hF327.1 29 rfl).trans ((hF124.1 29 rfl).trans (e_vi))), (congrFun ((hF327.2 3 rfl).trans (hF124.2 3 rfl)) _), ec335, by omega, by omega, by omega, by omega, by omega, by omega, by omega, by omega, by omega, by omega, by first | exact Or.inl (⟨by omega, by omega⟩)⟩
      · refine jx_swe (z := 4) (tg := 253) h8 rfl rfl rfl rfl ?_
        refine jx_ld (pc' := 254) (l' := L7) (st' := [.ref 66]) rfl (jl_aloadn gL7_0) ?_
        refine jx_ld (pc' := 255) (l' := L7) (st' := [.int (i32 (lv)), .ref 66]) rfl (jl_iloadn gL7_1) ?_
        refine jx_vr (pc' := 258) (as := [.int (i32 (lv))]) (st := []) rfl rfl rfl rfl ⟨rfl, rfl, Nat.le_of_ble_eq_true rfl⟩ rfl rfl (c_readAlt_w (dd := d) (hP := hP) (hd := by omega) (hW := hW) (lv := lv) (ln := ln) (e_ln := show G 9 = ln from (e_ln)) (li := li) (e_li := show G 3 = li from (e_li)) (at0 := at0) (e_at0 := show G 10 = at0 from (e_at0)) (fk := fk) (e_fk := show G 16 = fk from (e_fk)) (nd := nd) (e_nd := show G 31 = nd from (e_nd)) (sy := sy) (e_sy := show G 19 = sy from (e_sy)) (na := na) (e_na := show G 28 = na from (e_na)) (vi := vi) (e_vi := show G 29 = vi from (e_vi)) (le := le) (e_le := show A 4 (ln).toNat = le from (e_le)) (op0 := op0) (e_op0 := show G 15 = op0 from (e_op0)) (tk0 := tk0) (e_tk0 := show G 11 = tk0 from (e_tk0)) (ec := ec) (e_ec := show ecn A (G 31) = ec from e_ec) (i_LT := (LT_ext (rfl) (rfl) (rfl) i_LT)) (i_SV := (SV_fx i_SV e_vi (show G 29 = vi from (e_vi)) (by omega) hV0)) (i_PQ := (PQ_fx i_PQ hS0 (by omega) (hF0.2 29 rfl) (hF0.2 30 rfl))) (hvb := hvb) (h_lv := ⟨(Int.le_trans (by decide : (-2147483648 : Int) ≤ -2147483648) h_lv.1), (Int.le_trans h_lv.2 (by decide : (2147483647 : Int) ≤ 2147483647))⟩)  (p_0 := by omega) (p_1 := by omega) (p_2 := by omega) (p_3 := by omega) (p_4 := by omega) (p_5 := by omega) (p_6 := by omega) (p_7 := by omega) (p_8 := by omega) (p_9 := by omega) (p_10 := by omega)) (fun o V' hq => ?_)
        obtain ⟨G336, A337, r338, ln2_339, at2_340, fk2_341, nd2_342, sy2_343, na2_344, vi2_345, lf2_346, ec2_347, rfl, rfl, hW348, hF349, hQ350, hQ351, hQ352, b353, e354, e355, e356, e357, e358, e359, e360, e361, e362, p363, p364, p365, p366, p367, p368, p369, p370, p371, p372, q373⟩ := hq
        have hF374 := Fr_tr hF0 hF349 (Fr_sub (by decide)) (Fr_sub (by decide))
        have hP375 := Pf_tr hP0 hQ350 (by omega)
        have hS376 := Fx_tr hS0 hQ351 (by omega)
        have hV377 := Fx_tr hV0 hQ352 (by omega)
        have bln2_339 : (0 : Int) ≤ ln2_339 ∧ ln2_339 ≤ 3000 := e354 ▸ hW348.1 9
        have bat2_340 : (0 : Int) ≤ at2_340 ∧ at2_340 ≤ 3002 := e355 ▸ hW348.1 10
        have bfk2_341 : (0 : Int) ≤ fk2_341 ∧ fk2_341 ≤ 6 := e356 ▸ hW348.1 16
        have bnd2_342 : (0 : Int) ≤ nd2_342 ∧ nd2_342 ≤ 6999 := e357 ▸ hW348.1 31
        have bsy2_343 : (0 : Int) ≤ sy2_343 ∧ sy2_343 ≤ 202 := e358 ▸ hW348.1 19
        have bna2_344 : (0 : Int) ≤ na2_344 ∧ na2_344 ≤ 200 := e359 ▸ hW348.1 28
        have bvi2_345 : (0 : Int) ≤ vi2_345 ∧ vi2_345 ≤ 202 := e360 ▸ hW348.1 29
        have blf2_346 : (0 : Int) ≤ lf2_346 ∧ lf2_346 ≤ 3000 := e361 ▸ hW348.2 3 _
        refine .inr ⟨_, rfl, ?_⟩
        rcases q373 with ⟨a378, a379⟩ | ⟨a380, a381, a382, a383, a384, a385, a386, a387, a388, a389, a390⟩
        · have _q : True := trivial
          refine jx_rt (v := some (.int (i32 (r338)))) rfl rfl rfl rfl rfl rfl ?_
          exact ⟨_, _, _, ln2_339, at2_340, fk2_341, nd2_342, sy2_343, na2_344, vi2_345, lf2_346, ec2_347, rfl, rfl, hW348, hF374, hP375, hS376, hV377, by omega, (e354), (e355), (e356), (e357), (e358), (e359), (e360), (e361), e362, by omega, by omega, by omega, by omega, by omega, by omega, by omega, by omega, by omega, by omega, by first | exact Or.inl (⟨by omega, by omega⟩)⟩
        · have _q : True := trivial
          refine jx_rt (v := some (.int (i32 (r338)))) rfl rfl rfl rfl rfl rfl ?_
          exact ⟨_, _, _, ln2_339, at2_340, fk2_341, nd2_342, sy2_343, na2_344, vi2_345, lf2_346, ec2_347, rfl, rfl, hW348, hF374, hP375, hS376, hV377, by omega, (e354), (e355), (e356), (e357), (e358), (e359), (e360), (e361), e362, by omega, by omega, by omega, by omega, by omega, by omega, by omega, by omega, by omega, by omega, by first | exact Or.inr ((⟨by omega, by omega, by omega, by omega, by omega, by omega, by omega, a387, a388, by omega, by omega⟩))⟩
      · refine jx_swe (z := 5) (tg := 192) h8 rfl rfl rfl rfl ?_
        refine jx_ld (pc' := 193) (l' := L7) (st' := [.ref 66]) rfl (jl_aloadn gL7_0) ?_
        refine jx_ld (pc' := 194) (l' := L7) (st' := [.int (i32 (lv)), .ref 66]) rfl (jl_iloadn gL7_1) ?_
        refine jx_vr (pc' := 197) (as := [.int (i32 (lv))]) (st := []) rfl rfl rfl rfl ⟨rfl, rfl, Nat.le_of_ble_eq_true rfl⟩ rfl rfl (c_readIf_w (dd := d) (hP := hP) (hd := by omega) (hW := hW) (lv := lv) (ln := ln) (e_ln := show G 9 = ln from (e_ln)) (li := li) (e_li := show G 3 = li from (e_li)) (at0 := at0) (e_at0 := show G 10 = at0 from (e_at0)) (fk := fk) (e_fk := show G 16 = fk from (e_fk)) (nd := nd) (e_nd := show G 31 = nd from (e_nd)) (sy := sy) (e_sy := show G 19 = sy from (e_sy)) (na := na) (e_na := show G 28 = na from (e_na)) (vi := vi) (e_vi := show G 29 = vi from (e_vi)) (le := le) (e_le := show A 4 (ln).toNat = le from (e_le)) (op0 := op0) (e_op0 := show G 15 = op0 from (e_op0)) (tk0 := tk0) (e_tk0 := show G 11 = tk0 from (e_tk0)) (ec := ec) (e_ec := show ecn A (G 31) = ec from e_ec) (i_LT := (LT_ext (rfl) (rfl) (rfl) i_LT)) (i_SV := (SV_fx i_SV e_vi (show G 29 = vi from (e_vi)) (by omega) hV0)) (i_PQ := (PQ_fx i_PQ hS0 (by omega) (hF0.2 29 rfl) (hF0.2 30 rfl))) (hvb := hvb) (h_lv := ⟨(Int.le_trans (by decide : (-2147483648 : Int) ≤ -2147483648) h_lv.1), (Int.le_trans h_lv.2 (by decide : (2147483647 : Int) ≤ 2147483647))⟩)  (p_0 := by omega) (p_1 := by omega) (p_2 := by omega) (p_3 := by omega) (p_4 := by omega) (p_5 := by omega) (p_6 := by omega) (p_7 := by omega) (p_8 := by omega) (p_9 := by omega) (p_10 := by omega)) (fun o V' hq => ?_)
        obtain ⟨G391, A392, r393, ln2_394, at2_395, fk2_396, nd2_397, sy2_398, na2_399, vi2_400, lf2_401, ec2_402, rfl, rfl, hW403, hF404, hQ405, hQ406, hQ407, b408, e409, e410, e411, e412, e413, e414, e415, e416, e417, p418, p419, p420, p421, p422, p423, p424, p425, p426, p427, q428⟩ := hq
        have hF429 := Fr_tr hF0 hF404 (Fr_sub (by decide)) (Fr_sub (by decide))
        have hP430 := Pf_tr hP0 hQ405 (by omega)
        have hS431 := Fx_tr hS0 hQ406 (by omega)
        have hV432 := Fx_tr hV0 hQ407 (by omega)
        have bln2_394 : (0 : Int) ≤ ln2_394 ∧ ln2_394 ≤ 3000 := e409 ▸ hW403.1 9
        have bat2_395 : (0 : Int) ≤ at2_395 ∧ at2_395 ≤ 3002 := e410 ▸ hW403.1 10
        have bfk2_396 : (0 : Int) ≤ fk2_396 ∧ fk2_396 ≤ 6 := e411 ▸ hW403.1 16
        have bnd2_397 : (0 : Int) ≤ nd2_397 ∧ nd2_397 ≤ 6999 := e412 ▸ hW403.1 31
        have bsy2_398 : (0 : Int) ≤ sy2_398 ∧ sy2_398 ≤ 202 := e413 ▸ hW403.1 19
        have bna2_399 : (0 : Int) ≤ na2_399 ∧ na2_399 ≤ 200 := e414 ▸ hW403.1 28
        have bvi2_400 : (0 : Int) ≤ vi2_400 ∧ vi2_400 ≤ 202 := e415 ▸ hW403.1 29
        have blf2_401 : (0 : Int) ≤ lf2_401 ∧ lf2_401 ≤ 3000 := e416 ▸ hW403.2 3 _
        refine .inr ⟨_, rfl, ?_⟩
        rcases q428 with ⟨a433, a434⟩ | ⟨a435, a436, a437, a438, a439, a440, a441, a442, a443, a444, a445⟩
        · have _q : True := trivial
          refine jx_rt (v := some (.int (i32 (r393)))) rfl rfl rfl rfl rfl rfl ?_
          exact ⟨_, _, _, ln2_394, at2_395, fk2_396, nd2_397, sy2_398, na2_399, vi2_400, lf2_401, ec2_402, rfl, rfl, hW403, hF429, hP430, hS431, hV432, by omega, (e409), (e410), (e411), (e412), (e413), (e414), (e415), (e416), e417, by omega, by omega, by omega, by omega, by omega, by omega, by omega, by omega, by omega, by omega, by first | exact Or.inl (⟨by omega, by omega⟩)⟩
        · have _q : True := trivial
          refine jx_rt (v := some (.int (i32 (r393)))) rfl rfl rfl rfl rfl rfl ?_
          exact ⟨_, _, _, ln2_394, at2_395, fk2_396, nd2_397, sy2_398, na2_399, vi2_400, lf2_401, ec2_402, rfl, rfl, hW403, hF429, hP430, hS431, hV432, by omega, (e409), (e410), (e411), (e412), (e413), (e414), (e415), (e416), e417, by omega, by omega, by omega, by omega, by omega, by omega, by omega, by omega, by omega, by omega, by first | exact Or.inr ((⟨by omega, by omega, by omega, by omega, by omega, by omega, by omega, a442, a443, by omega, by omega⟩))⟩
      · refine jx_swe (z := 6) (tg := 198) h8 rfl rfl rfl rfl ?_
        refine jx_ld (pc' := 199) (l' := L7) (st' := [.ref 66]) rfl (jl_aloadn gL7_0) ?_
        refine jx_vr (pc' := 202) (as := []) (st := []) rfl rfl rfl rfl ⟨rfl, rfl, Nat.le_of_ble_eq_true rfl⟩ rfl rfl (c_next (dd := d) (hd := by omega) (hW := hW)  (ln := ln) (e_ln := show G 9 = ln from (e_ln)) (le := le) (e_le := show A 4 (ln).toNat = le from (e_le)) (at0 := at0) (e_at0 := show G 10 = at0 from (e_at0))    (p_0 := by omega)) (fun o V' hq => ?_)
        obtain ⟨G446, A447, at2_448, tk2_449, rfl, rfl, hW450, hF451, e452, e453, p454, p455, p456, -⟩ := hq
        have hF458 := Fr_tr hF0 hF451 (Fr_sub (by decide)) (Fr_sub (by decide))
        have hP459 := Pf_f hP0 hF451 (by decide)
        have hS460 := Fx_f hS0 hF451 (by decide)
        have hV461 := Fx_f hV0 hF451 (by decide)
        have ec462 : ecn A447 (G446 31) = ec := (ecn_f (hF451.2 15 rfl) (hF451.1 31 rfl)).trans e_ec
        have bat2_448 : (0 : Int) ≤ at2_448 ∧ at2_448 ≤ 3002 := e452 ▸ hW450.1 10
        have ztk2_449 := tz_b tk2_449
        have btk2_449 : (0 : Int) ≤ tk2_449 ∧ tk2_449 ≤ 5 := e453 ▸ hW450.1 11
        refine .inl ⟨rfl, ?_⟩
        refine jx_ld (pc' := 203) (l' := L7) (st' := [.ref 66]) rfl (jl_aloadn gL7_0) ?_
        refine jx_ar (pc' := 205) (st' := [.int (i32 (31)), .ref 66]) rfl rfl rfl rfl ?_
        refine jx_ar (pc' := 206) (st' := [.int (i32 (0)), .int (i32 (31)), .ref 66]) rfl rfl rfl rfl ?_
        refine jx_ar (pc' := 207) (st' := [.int (i32 (0)), .int (i32 (0)), .int (i32 (31)), .ref 66]) rfl rfl rfl rfl ?_
        refine jx_ar (pc' := 208) (st' := [.int (i32 (0)), .int (i32 (0)), .int (i32 (0)), .int (i32 (31)), .ref 66]) rfl rfl rfl rfl ?_
        refine jx_ar (pc' := 209) (st' := [.int (i32 (0)), .int (i32 (0)), .int (i32 (0)), .int (i32 (0)), .int (i32 (31)), .ref 66]) rfl rfl rfl rfl ?_
        refine jx_vr (pc' := 212) (as := [.int (i32 (31)), .int (i32 (0)), .int (i32 (0)), .int (i32 (0)), .int (i32 (0))]) (st := []) rfl rfl rfl rfl ⟨rfl, rfl, Nat.le_of_ble_eq_true rfl⟩ rfl rfl (c_node_o (dd := d) (hd := by omega) (hW := hW450) (kind := 31) (a := 0) (b := 0) (c := 0) (e := 0) (nd := nd) (e_nd := show G446 31 = nd from ((hF451.1 31 rfl).trans (e_nd))) (ec := ec) (e_ec := show ecn A447 (G446 31) = ec from ec462)  (h_kind := ⟨(by decide), (by decide)⟩) (h_a := ⟨(by decide), (by decide)⟩) (h_b := ⟨(by decide), (by decide)⟩) (h_c := ⟨(by decide), (by decide)⟩) (h_e := ⟨(by decide), (by decide)⟩)  (p_0 := by omega) (p_1 := by omega) (p_2 := by omega)) (fun o V' hq => ?_)
        obtain ⟨G463, A464, nd2_465, ec2_466, rfl, rfl, hW467, hF468, hQ469, e470, e471, p472, p473, p474, -⟩ := hq
        have hF476 := Fr_tr hF458 hF468 (Fr_sub (by decide)) (Fr_sub (by decide))
        have hP477 := Pf_tr hP459 hQ469 (by omega)
        have hS478 := Fx_f hS460 hF468 (by decide)
        have hV479 := Fx_f hV461 hF468 (by decide)
        have bnd2_465 : (0 : Int) ≤ nd2_465 ∧ nd2_465 ≤ 6999 := e470 ▸ hW467.1 31
        refine .inr ⟨_, rfl, ?_⟩
        refine jx_ld (pc' := 213) (l' := jSto1 L7 2 (.int (i32 (nd)))) (st' := []) rfl rfl ?_
        obtain ⟨L480, eL480⟩ : ∃ q, q = jSto1 L7 2 (.int (i32 (nd))) := ⟨_, rfl⟩
        rw [← eL480]
        have gL480_0 : jGet L480 0 = some (.ref 66) := eL480 ▸ jg_ne (by decide) gL7_0 rfl
        have gL480_1 : jGet L480 1 = some (.int (i32 (lv))) := eL480 ▸ jg_ne (by decide) gL7_1 rfl
        have gL480_3 : jGet L480 3 = some (.int (i32 (G 13))) := eL480 ▸ jg_ne (by decide) gL7_3 rfl
        have gL480_2 : jGet L480 2 = some (.int (i32 (nd))) := eL480 ▸ jg_eq
        refine jx_ld (pc' := 214) (l' := L480) (st' := [.ref 66]) rfl (jl_aloadn gL480_0) ?_
        refine jr_get (pc' := 217) (i := 34) (v := .ref 84) rfl rfl (by decide) rfl rfl ?_
        refine jx_ld (pc' := 218) (l' := L480) (st' := [.int (i32 (nd)), .ref 84]) rfl (jl_iloadn gL480_2) ?_
        refine jx_ld (pc' := 219) (l' := L480) (st' := [.ref 66, .int (i32 (nd)), .ref 84]) rfl (jl_aloadn gL480_0) ?_
        refine jx_vr (pc' := 222) (as := []) (st := [.int (i32 (nd)), .ref 84]) rfl rfl rfl rfl ⟨rfl, rfl, Nat.le_of_ble_eq_true rfl⟩ rfl rfl (RE_all X 9 (dd := d) (hd := by omega) (hW := hW467)  (ln := ln) (e_ln := show G463 9 = ln from ((hF468.1 9 rfl).trans ((hF451.1 9 rfl).trans (e_ln)))) (le := le) (e_le := show A464 4 (ln).toNat = le from (congrFun ((hF468.2 4 rfl).trans (hF451.2 4 rfl)) _).trans (e_le)) (at0 := at2_448) (e_at0 := show G463 10 = at2_448 from ((hF468.1 10 rfl).trans (e452))) (fk := fk) (e_fk := show G463 16 = fk from ((hF468.1 16 rfl).trans ((hF451.1 16 rfl).trans (e_fk)))) (op0 := op0) (e_op0 := show G463 15 = op0 from ((hF468.1 15 rfl).trans ((hF451.1 15 rfl).trans (e_op0)))) (nd := nd2_465) (e_nd := show G463 31 = nd2_465 from (e470)) (tk0 := tk2_449) (e_tk0 := show G463 11 = tk2_449 from ((hF468.1 11 rfl).trans (e453))) (ec := ec2_466) (e_ec := show ecn A464 (G463 31) = ec2_466 from e471) (i_SV := (SV_fx i_SV e_vi (show G463 29 = vi from ((hF468.1 29 rfl).trans ((hF451.1 29 rfl).trans (e_vi)))) (by omega) hV479))   (p_0 := by omega) (p_1 := by omega) (p_2 := by omega) (p_3 := by omega) (p_4 := by omega) (p_5 := by omega)) (fun o V' hq => ?_)
        obtain ⟨G481, A482, r483, at2_484, fk2_485, op2_486, nd2_487, tk2_488, ec2_489, rfl, rfl, hW490, hF491, hQ492, b493, e494, e495, e496, e497, e498, e499, p500, p501, p502, p503, p504, p505, q506⟩ := hq
        have hF507 := Fr_tr hF476 hF491 (Fr_sub (by decide)) (Fr_sub (by decide))
        have hP508 := Pf_tr hP477 hQ492 (by omega)
        have hS509 := Fx_f hS478 hF491 (by decide)
        have hV510 := Fx_f hV479 hF491 (by decide)
        have sf511 : ND A482 (nd) (31) (0) (0) (0) (0) (0) (0) := ND_ag (by omega) (Ag_pf hQ492 (by omega)) p474
        have bat2_484 : (0 : Int) ≤ at2_484 ∧ at2_484 ≤ 3002 := e494 ▸ hW490.1 10
        have bfk2_485 : (0 : Int) ≤ fk2_485 ∧ fk2_485 ≤ 6 := e495 ▸ hW490.1 16
        have bop2_486 : (-2147483648 : Int) ≤ op2_486 ∧ op2_486 ≤ 2147483647 := e496 ▸ hW490.1 15
        have bnd2_487 : (0 : Int) ≤ nd2_487 ∧ nd2_487 ≤ 6999 := e497 ▸ hW490.1 31
        have ztk2_488 := tz_b tk2_488
        have btk2_488 : (0 : Int) ≤ tk2_488 ∧ tk2_488 ≤ 5 := e498 ▸ hW490.1 11
        refine .inr ⟨_, rfl, ?_⟩
        rcases q506 with ⟨a512, a513, a514, a515, a516, a517⟩ | ⟨a518, a519, a520⟩ | ⟨a521, a522, a523, a524, a525⟩
        · have _q : True := trivial
          exfalso
          omega
        · have _q : True := trivial
          refine jr_st (pc' := 223) (i := 17) (m := 7000) (z := nd) (y := r483) rfl (by decide) rfl (by decide) (by omega) (by omega) rfl ?_
          have hW527 : Wk G481 (uA A482 17 (nd).toNat (r483)) := Wk_a hW490 (show (-2147483648 : Int) ≤ r483 by omega) (show r483 ≤ (2147483647 : Int) by omega)
          have hF528 := Fr_a (z := r483) (k := 17) (n := (nd).toNat) hF507 (by decide)
          obtain ⟨A526, eA526⟩ : ∃ q, q = uA A482 17 (nd).toNat (r483) := ⟨_, rfl⟩
          rw [← eA526]
          rw [← eA526] at hW527 hF528
          have q529 : A526 17 (nd).toNat = r483 := by rw [eA526]; exact uA_eq
          have hP530 : Pf nd A A526 := eA526 ▸ Pf_a hP508 (z := nd) (by omega) (by omega)
          have hS531 : Fx sr (sy) A A526 := eA526 ▸ Fx_n hS509 rfl
          have hV532 : Fx [14] (vi) A A526 := eA526 ▸ Fx_n hV510 rfl
          have sf533 : ND A526 (nd) (31) (r483) (0) (0) (0) (0) (0) := ND_a eA526 sf511
          have ec534 : ecn A526 (G481 31) = ec2_489 := (ecn_e ((congrFun eA526 15).trans (uA_ne (by decide)))).trans e499
          refine jx_ld (pc' := 224) (l' := L480) (st' := [.ref 66]) rfl (jl_aloadn gL480_0) ?_
          refine jx_vr (pc' := 227) (as := []) (st := []) rfl rfl rfl rfl ⟨rfl, rfl, Nat.le_of_ble_eq_true rfl⟩ rfl rfl (c_endLine (dd := d) (hd := by omega) (hW := hW527)  (ln := ln) (e_ln := show G481 9 = ln from ((hF491.1 9 rfl).trans ((hF468.1 9 rfl).trans ((hF451.1 9 rfl).trans (e_ln))))) (li := li) (e_li := show G481 3 = li from ((hF491.1 3 rfl).trans ((hF468.1 3 rfl).trans ((hF451.1 3 rfl).trans (e_li))))) (fk := fk2_485) (e_fk := show G481 16 = fk2_485 from (e495)) (tk0 := tk2_488) (e_tk0 := show G481 11 = tk2_488 from (e498))    (p_0 := by omega)) (fun o V' hq => ?_)
          obtain ⟨G535, A536, ln2_537, fk2_538, rfl, rfl, hW539, hF540, e541, e542, q543⟩ := hq
          have hF544 := Fr_tr hF528 hF540 (Fr_sub (by decide)) (Fr_sub (by decide))
          have hP545 := Pf_f hP530 hF540 (by decide)
          have hS546 := Fx_f hS531 hF540 (by decide)
          have hV547 := Fx_f hV532 hF540 (by decide)
          have sf548 : ND A536 (nd) (31) (r483) (0) (0) (0) (0) (0) := ND_ag (by omega) (Ag_fr hF540 (by decide)) sf533
          have ec549 : ecn A536 (G535 31) = ec2_489 := (ecn_f (hF540.2 15 rfl) (hF540.1 31 rfl)).trans ec534
          have bln2_537 : (0 : Int) ≤ ln2_537 ∧ ln2_537 ≤ 3000 := e541 ▸ hW539.1 9
          have bfk2_538 : (0 : Int) ≤ fk2_538 ∧ fk2_538 ≤ 6 := e542 ▸ hW539.1 16
          refine .inl ⟨rfl, ?_⟩
          rcases q543 with ⟨a550, a551, a552, a553, a554⟩ | ⟨a555, a556⟩
          · have _q : True := trivial
            exfalso
            omega
          · have _q : True := trivial
            refine jx_ld (pc' := 228) (l' := L480) (st' := [.ref 66]) rfl (jl_aloadn gL480_0) ?_
            refine jr_get (pc' := 231) (i := 38) (v := .ref 88) rfl rfl (by decide) rfl rfl ?_
            refine jx_ld (pc' := 232) (l' := L480) (st' := [.int (i32 (nd)), .ref 88]) rfl (jl_iloadn gL480_2) ?_
            refine jx_ld (pc' := 233) (l' := L480) (st' := [.ref 66, .int (i32 (nd)), .ref 88]) rfl (jl_aloadn gL480_0) ?_
            refine jx_vr (pc' := 236) (as := []) (st := [.int (i32 (nd)), .ref 88]) rfl rfl rfl rfl ⟨rfl, rfl, Nat.le_of_ble_eq_true rfl⟩ rfl rfl (c_bad (dd := d) (hd := by omega) (hW := hW539)  (fk := fk2_538) (e_fk := show G535 16 = fk2_538 from (e542))    ) (fun o V' hq => ?_)
            obtain ⟨r557, rfl, rfl, b558, q559⟩ := hq
            refine .inr ⟨_, rfl, ?_⟩
            rcases q559 with ⟨rfl, a560⟩ | ⟨rfl, a561⟩
            · have _q : True := trivial
              refine jx_if_eq (pc' := 239) (tg := 243) rfl rfl rfl (by decide) (by decide) (fun h562 => ?_) (fun h562 => ?_)
              · have _q := h562
                exact absurd h562 (by omega)
              · have _q := h562
                refine jx_ar (pc' := 240) (st' := [.int (i32 (0)), .int (i32 (nd)), .ref 88]) rfl rfl rfl rfl ?_
                refine jx_go (tg := 250) rfl rfl ?_
                refine jr_st (pc' := 251) (i := 21) (m := 7000) (z := nd) (y := 0) rfl (by decide) rfl (by decide) (by omega) (by omega) rfl ?_
                have hW564 : Wk G535 (uA A536 21 (nd).toNat (0)) := Wk_a hW539 (show (-2147483648 : Int) ≤ 0 by omega) (show 0 ≤ (2147483647 : Int) by omega)
                have hF565 := Fr_a (z := 0) (k := 21) (n := (nd).toNat) hF544 (by decide)
                obtain ⟨A563, eA563⟩ : ∃ q, q = uA A536 21 (nd).toNat (0) := ⟨_, rfl⟩
                rw [← eA563]
                rw [← eA563] at hW564 hF565
                have q566 : A563 21 (nd).toNat = 0 := by rw [eA563]; exact uA_eq
                have hP567 : Pf nd A A563 := eA563 ▸ Pf_a hP545 (z := nd) (by omega) (by omega)
                have hS568 : Fx sr (sy) A A563 := eA563 ▸ Fx_n hS546 rfl
                have hV569 : Fx [14] (vi) A A563 := eA563 ▸ Fx_n hV547 rfl
                have sf570 : ND A563 (nd) (31) (r483) (0) (0) (0) (0) (0) := ND_f eA563 sf548
                have ec571 : ecn A563 (G535 31) = ec2_489 := (ecn_e ((congrFun eA563 15).trans (uA_ne (by decide)))).trans ec549
                refine jx_ld (pc' := 252) (l' := L480) (st' := [.int (i32 (nd))]) rfl (jl_iloadn gL480_2) ?_
                refine jx_rt (v := some (.int (i32 (nd)))) rfl rfl rfl rfl rfl rfl ?_
                exact ⟨_, _, _, ln2_537, at2_484, fk2_538, nd2_487, sy, na, vi, A 3 (ln2_537).toNat, ec2_489, rfl, rfl, hW564, hF565, hP567, hS568, hV569, by omega, (e541), ((hF540.1 10 rfl).trans (e494)), (e542), ((hF540.1 31 rfl).trans (e497)), ((hF540.1 19 rfl).trans ((hF491.1 19 rfl).trans ((hF468.1 19 rfl).trans ((hF451.1 19 rfl).trans (e_sy))))), ((hF540.1 28 rfl).trans ((hF491.1 28 rfl).trans ((hF468.1 28 rfl).trans ((hF451.1 28 rfl).trans (e_na))))), ((hF540.1 29 rfl).trans ((hF491.1 29 rfl).trans ((hF468.1 29 rfl).trans ((hF451.1 29 rfl).trans (e_vi))))), (congrFun (((congrFun eA563 3).trans (uA_ne (by decide))).trans ((hF540.2 3 rfl).trans (((congrFun eA526 3).trans (uA_ne (by decide))).trans ((hF491.2 3 rfl).trans ((hF468.2 3 rfl).trans (hF451.2 3 rfl)))))) _), ec571, by omega, by omega, by omega, by omega, by omega, by omega, by omega, by omega, by omega, by omega, by first | exact Or.inl (⟨by omega, by omega⟩)⟩
            · have _q : True := trivial
              exfalso
              omega
        · have _q : True := trivial
          refine jr_st (pc' := 223) (i := 17) (m := 7000) (z := nd) (y := r483) rfl (by decide) rfl (by decide) (by omega) (by omega) rfl ?_
          have hW573 : Wk G481 (uA A482 17 (nd).toNat (r483)) := Wk_a hW490 (show (-2147483648 : Int) ≤ r483 by omega) (show r483 ≤ (2147483647 : Int) by omega)
          have hF574 := Fr_a (z := r483) (k := 17) (n := (nd).toNat) hF507 (by decide)
          obtain ⟨A572, eA572⟩ : ∃ q, q = uA A482 17 (nd).toNat (r483) := ⟨_, rfl⟩
          rw [← eA572]
          rw [← eA572] at hW573 hF574
          have q575 : A572 17 (nd).toNat = r483 := by rw [eA572]; exact uA_eq
          have hP576 : Pf nd A A572 := eA572 ▸ Pf_a hP508 (z := nd) (by omega) (by omega)
          have hS577 : Fx sr (sy) A A572 := eA572 ▸ Fx_n hS509 rfl
          have hV578 : Fx [14] (vi) A A572 := eA572 ▸ Fx_n hV510 rfl
          have sf579 : ND A572 (nd) (31) (r483) (0) (0) (0) (0) (0) := ND_a eA572 sf511
          have sf580 : wE A572 Vs sb (2 * 9 + 2) (r483) (nd2_465) (nd2_487) := wE_ag (by omega) (Sg_ne eA572 rfl) (Ag_st eA572 (by omega) (by omega)) a524
          have ec581 : ecn A572 (G481 31) = ec2_489 := (ecn_e ((congrFun eA572 15).trans (uA_ne (by decide)))).trans e499
          refine jx_ld (pc' := 224) (l' := L480) (st' := [.ref 66]) rfl (jl_aloadn gL480_0) ?_
          refine jx_vr (pc' := 227) (as := []) (st := []) rfl rfl rfl rfl ⟨rfl, rfl, Nat.le_of_ble_eq_true rfl⟩ rfl rfl (c_endLine (dd := d) (hd := by omega) (hW := hW573)  (ln := ln) (e_ln := show G481 9 = ln from ((hF491.1 9 rfl).trans ((hF468.1 9 rfl).trans ((hF451.1 9 rfl).trans (e_ln))))) (li := li) (e_li := show G481 3 = li from ((hF491.1 3 rfl).trans ((hF468.1 3 rfl).trans ((hF451.1 3 rfl).trans (e_li))))) (fk := fk2_485) (e_fk := show G481 16 = fk2_485 from (e495)) (tk0 := tk2_488) (e_tk0 := show G481 11 = tk2_488 from (e498))    (p_0 := by omega)) (fun o V' hq => ?_)
          obtain ⟨G582, A583, ln2_584, fk2_585, rfl, rfl, hW586, hF587, e588, e589, q590⟩ := hq
          have hF591 := Fr_tr hF574 hF587 (Fr_sub (by decide)) (Fr_sub (by decide))
          have hP592 := Pf_f hP576 hF587 (by decide)
          have hS593 := Fx_f hS577 hF587 (by decide)
          have hV594 := Fx_f hV578 hF587 (by decide)
          have sf595 : ND A583 (nd) (31) (r483) (0) (0) (0) (0) (0) := ND_ag (by omega) (Ag_fr hF587 (by decide)) sf579
          have sf596 : wE A583 Vs sb (2 * 9 + 2) (r483) (nd2_465) (nd2_487) := wE_ag (by omega) (Sg_fr hF587 (by decide)) (Ag_fr hF587 (by decide)) sf580
          have ec597 : ecn A583 (G582 31) = ec2_489 := (ecn_f (hF587.2 15 rfl) (hF587.1 31 rfl)).trans ec581
          have bln2_584 : (0 : Int) ≤ ln2_584 ∧ ln2_584 ≤ 3000 := e588 ▸ hW586.1 9
          have bfk2_585 : (0 : Int) ≤ fk2_585 ∧ fk2_585 ≤ 6 := e589 ▸ hW586.1 16
          refine .inl ⟨rfl, ?_⟩
          rcases q590 with ⟨a598, a599, a600, a601, a602⟩ | ⟨a603, a604⟩
          · have _q : True := trivial
            have b605 : (0 : Int) ≤ A 3 (ln2_584).toNat ∧ A 3 (ln2_584).toNat ≤ 3000 := hW.2 3 _
            have lt606 : ln2_584 < li → le < A 3 (ln2_584).toNat := fun hh => LT_nx (LT_ext (((hF587.1 3 rfl).trans ((hF491.1 3 rfl).trans ((hF468.1 3 rfl).trans (hF451.1 3 rfl))))) (((hF587.2 3 rfl).trans (((congrFun eA572 3).trans (uA_ne (by decide))).trans ((hF491.2 3 rfl).trans ((hF468.2 3 rfl).trans (hF451.2 3 rfl)))))) (((hF587.2 4 rfl).trans (((congrFun eA572 4).trans (uA_ne (by decide))).trans ((hF491.2 4 rfl).trans ((hF468.2 4 rfl).trans (hF451.2 4 rfl)))))) i_LT) (show G582 3 = li from ((hF587.1 3 rfl).trans ((hF491.1 3 rfl).trans ((hF468.1 3 rfl).trans ((hF451.1 3 rfl).trans (e_li)))))) (show A583 4 (ln).toNat = le from (congrFun ((hF587.2 4 rfl).trans (((congrFun eA572 4).trans (uA_ne (by decide))).trans ((hF491.2 4 rfl).trans ((hF468.2 4 rfl).trans (hF451.2 4 rfl))))) _).trans (e_le)) (show A583 3 (ln2_584).toNat = A 3 (ln2_584).toNat from (congrFun ((hF587.2 3 rfl).trans (((congrFun eA572 3).trans (uA_ne (by decide))).trans ((hF491.2 3 rfl).trans ((hF468.2 3 rfl).trans (hF451.2 3 rfl))))) _)) (show ln2_584 = ln + 1 by omega) (by omega) hh
            refine jx_ld (pc' := 228) (l' := L480) (st' := [.ref 66]) rfl (jl_aloadn gL480_0) ?_
            refine jr_get (pc' := 231) (i := 38) (v := .ref 88) rfl rfl (by decide) rfl rfl ?_
            refine jx_ld (pc' := 232) (l' := L480) (st' := [.int (i32 (nd)), .ref 88]) rfl (jl_iloadn gL480_2) ?_
            refine jx_ld (pc' := 233) (l' := L480) (st' := [.ref 66, .int (i32 (nd)), .ref 88]) rfl (jl_aloadn gL480_0) ?_
            refine jx_vr (pc' := 236) (as := []) (st := [.int (i32 (nd)), .ref 88]) rfl rfl rfl rfl ⟨rfl, rfl, Nat.le_of_ble_eq_true rfl⟩ rfl rfl (c_bad (dd := d) (hd := by omega) (hW := hW586)  (fk := fk2_585) (e_fk := show G582 16 = fk2_585 from (e589))    ) (fun o V' hq => ?_)
            obtain ⟨r607, rfl, rfl, b608, q609⟩ := hq
            refine .inr ⟨_, rfl, ?_⟩
            rcases q609 with ⟨rfl, a610⟩ | ⟨rfl, a611⟩
            · have _q : True := trivial
              exfalso
              omega
            · have _q : True := trivial
              refine jx_if_eq (pc' := 239) (tg := 243) rfl rfl rfl (by decide) (by decide) (fun h612 => ?_) (fun h612 => ?_)
              · have _q := h612
                refine jx_ld (pc' := 244) (l' := L480) (st' := [.ref 66, .int (i32 (nd)), .ref 88]) rfl (jl_aloadn gL480_0) ?_
                refine jx_ld (pc' := 245) (l' := L480) (st' := [.int (i32 (lv)), .ref 66, .int (i32 (nd)), .ref 88]) rfl (jl_iloadn gL480_1) ?_
                refine jx_ar (pc' := 246) (st' := [.int (i32 (1)), .int (i32 (lv)), .ref 66, .int (i32 (nd)), .ref 88]) rfl rfl rfl rfl ?_
                refine jx_add (pc' := 247) rfl rfl ?_
                refine jx_vr (pc' := 250) (as := [.int (i32 ((lv + 1)))]) (st := [.int (i32 (nd)), .ref 88]) rfl rfl rfl rfl ⟨rfl, rfl, Nat.le_of_ble_eq_true rfl⟩ rfl rfl (hP (dd := d) (hd := by omega) (hW := hW586) (lv := (lv + 1)) (at0 := at2_484) (ln := ln2_584) (e_ln := show G582 9 = ln2_584 from (e588)) (li := li) (e_li := show G582 3 = li from ((hF587.1 3 rfl).trans ((hF491.1 3 rfl).trans ((hF468.1 3 rfl).trans ((hF451.1 3 rfl).trans (e_li)))))) (fk := fk2_585) (e_fk := show G582 16 = fk2_585 from (e589)) (nd := nd2_487) (e_nd := show G582 31 = nd2_487 from ((hF587.1 31 rfl).trans (e497))) (sy := sy) (e_sy := show G582 19 = sy from ((hF587.1 19 rfl).trans ((hF491.1 19 rfl).trans ((hF468.1 19 rfl).trans ((hF451.1 19 rfl).trans (e_sy)))))) (na := na) (e_na := show G582 28 = na from ((hF587.1 28 rfl).trans ((hF491.1 28 rfl).trans ((hF468.1 28 rfl).trans ((hF451.1 28 rfl).trans (e_na)))))) (vi := vi) (e_vi := show G582 29 = vi from ((hF587.1 29 rfl).trans ((hF491.1 29 rfl).trans ((hF468.1 29 rfl).trans ((hF451.1 29 rfl).trans (e_vi)))))) (lf := A 3 (ln2_584).toNat) (e_lf := show A583 3 (ln2_584).toNat = A 3 (ln2_584).toNat from (congrFun ((hF587.2 3 rfl).trans (((congrFun eA572 3).trans (uA_ne (by decide))).trans ((hF491.2 3 rfl).trans ((hF468.2 3 rfl).trans (hF451.2 3 rfl))))) _)) (ac := at2_484) (e_ac := show G582 10 = at2_484 from ((hF587.1 10 rfl).trans (e494))) (ec := ec2_489) (e_ec := show ecn A583 (G582 31) = ec2_489 from ec597) (i_LT := (LT_ext (((hF587.1 3 rfl).trans ((hF491.1 3 rfl).trans ((hF468.1 3 rfl).trans (hF451.1 3 rfl))))) (((hF587.2 3 rfl).trans (((congrFun eA572 3).trans (uA_ne (by decide))).trans ((hF491.2 3 rfl).trans ((hF468.2 3 rfl).trans (hF451.2 3 rfl)))))) (((hF587.2 4 rfl).trans (((congrFun eA572 4).trans (uA_ne (by decide))).trans ((hF491.2 4 rfl).trans ((hF468.2 4 rfl).trans (hF451.2 4 rfl)))))) i_LT)) (i_SV := (SV_fx i_SV e_vi (show G582 29 = vi from ((hF587.1 29 rfl).trans ((hF491.1 29 rfl).trans ((hF468.1 29 rfl).trans ((hF451.1 29 rfl).trans (e_vi)))))) (by omega) hV594)) (i_PQ := (PQ_fx i_PQ hS593 (by omega) (hF591.2 29 rfl) (hF591.2 30 rfl))) (hvb := hvb) (h_lv := ⟨(by omega), (by omega)⟩)  (p_0 := by omega) (p_1 := by omega) (p_2 := by omega) (p_3 := by omega) (p_4 := by omega) (p_5 := by omega) (p_6 := by omega) (p_7 := by omega) (p_8 := by omega) (p_9 := by omega) (p_10 := by omega)) (fun o V' hq => ?_)
                obtain ⟨G613, A614, r615, ln2_616, at2_617, fk2_618, nd2_619, sy2_620, na2_621, vi2_622, lf2_623, ec2_624, rfl, rfl, hW625, hF626, hQ627, hQ628, hQ629, b630, e631, e632, e633, e634, e635, e636, e637, e638, e639, p640, p641, p642, p643, p644, p645, p646, p647, p648, q649⟩ := hq
                have hF650 := Fr_tr hF591 hF626 (Fr_sub (by decide)) (Fr_sub (by decide))
                have k651 : A614 17 (nd).toNat = r483 := (hQ627 17 _ rfl (by omega)).trans (show A583 17 (nd).toNat = r483 from (congrFun (hF587.2 17 rfl) _).trans (q575))
                have hP652 := Pf_tr hP592 hQ627 (by omega)
                have hS653 := Fx_tr hS593 hQ628 (by omega)
                have hV654 := Fx_tr hV594 hQ629 (by omega)
                have sf655 : ND A614 (nd) (31) (r483) (0) (0) (0) (0) (0) := ND_ag (by omega) (Ag_pf hQ627 (by omega)) sf595
                have sf656 : wE A614 Vs sb (2 * 9 + 2) (r483) (nd2_465) (nd2_487) := wE_ag (by omega) (Fx_su hQ628 (by omega)) (Ag_pf hQ627 (by omega)) sf596
                have bln2_616 : (0 : Int) ≤ ln2_616 ∧ ln2_616 ≤ 3000 := e631 ▸ hW625.1 9
                have bat2_617 : (0 : Int) ≤ at2_617 ∧ at2_617 ≤ 3002 := e632 ▸ hW625.1 10
                have bfk2_618 : (0 : Int) ≤ fk2_618 ∧ fk2_618 ≤ 6 := e633 ▸ hW625.1 16
                have bnd2_619 : (0 : Int) ≤ nd2_619 ∧ nd2_619 ≤ 6999 := e634 ▸ hW625.1 31
                have bsy2_620 : (0 : Int) ≤ sy2_620 ∧ sy2_620 ≤ 202 := e635 ▸ hW625.1 19
                have bna2_621 : (0 : Int) ≤ na2_621 ∧ na2_621 ≤ 200 := e636 ▸ hW625.1 28
                have bvi2_622 : (0 : Int) ≤ vi2_622 ∧ vi2_622 ≤ 202 := e637 ▸ hW625.1 29
                have blf2_623 : (0 : Int) ≤ lf2_623 ∧ lf2_623 ≤ 3000 := e638 ▸ hW625.2 3 _
                refine .inr ⟨_, rfl, ?_⟩
                rcases q649 with ⟨a657, a658⟩ | ⟨a659, a660, a661, a662, a663, a664, a665, a666, a667, a668⟩
                · have _q : True := trivial
                  refine jr_st (pc' := 251) (i := 21) (m := 7000) (z := nd) (y := r615) rfl (by decide) rfl (by decide) (by omega) (by omega) rfl ?_
                  have hW670 : Wk G613 (uA A614 21 (nd).toNat (r615)) := Wk_a hW625 (show (-2147483648 : Int) ≤ r615 by omega) (show r615 ≤ (2147483647 : Int) by omega)
                  have hF671 := Fr_a (z := r615) (k := 21) (n := (nd).toNat) hF650 (by decide)
                  obtain ⟨A669, eA669⟩ : ∃ q, q = uA A614 21 (nd).toNat (r615) := ⟨_, rfl⟩
                  rw [← eA669]
                  rw [← eA669] at hW670 hF671
                  have q672 : A669 21 (nd).toNat = r615 := by rw [eA669]; exact uA_eq
                  have hP673 : Pf nd A A669 := eA669 ▸ Pf_a hP652 (z := nd) (by omega) (by omega)
                  have hS674 : Fx sr (sy) A A669 := eA669 ▸ Fx_n hS653 rfl
                  have hV675 : Fx [14] (vi) A A669 := eA669 ▸ Fx_n hV654 rfl
                  have sf676 : ND A669 (nd) (31) (r483) (0) (0) (0) (r615) (0) := ND_f eA669 sf655
                  have sf677 : wE A669 Vs sb (2 * 9 + 2) (r483) (nd2_465) (nd2_487) := wE_ag (by omega) (Sg_ne eA669 rfl) (Ag_st eA669 (by omega) (by omega)) sf656
                  have ec678 : ecn A669 (G613 31) = ec2_624 := (ecn_e ((congrFun eA669 15).trans (uA_ne (by decide)))).trans e639
                  refine jx_ld (pc' := 252) (l' := L480) (st' := [.int (i32 (nd))]) rfl (jl_iloadn gL480_2) ?_
                  refine jx_rt (v := some (.int (i32 (nd)))) rfl rfl rfl rfl rfl rfl ?_
                  exact ⟨_, _, _, ln2_616, at2_617, fk2_618, nd2_619, sy2_620, na2_621, vi2_622, lf2_623, ec2_624, rfl, rfl, hW670, hF671, hP673, hS674, hV675, by omega, (e631), (e632), (e633), (e634), (e635), (e636), (e637), (congrFun ((congrFun eA669 3).trans (uA_ne (by decide))) _).trans (e638), ec678, by omega, by omega, by omega, by omega, by omega, by omega, by omega, by omega, by omega, by omega, by first | exact Or.inl (⟨by omega, by omega⟩)⟩
                · have _q : True := trivial
                  refine jr_st (pc' := 251) (i := 21) (m := 7000) (z := nd) (y := r615) rfl (by decide) rfl (by decide) (by omega) (by omega) rfl ?_
                  have hW680 : Wk G613 (uA A614 21 (nd).toNat (r615)) := Wk_a hW625 (show (-2147483648 : Int) ≤ r615 by omega) (show r615 ≤ (2147483647 : Int) by omega)
                  have hF681 := Fr_a (z := r615) (k := 21) (n := (nd).toNat) hF650 (by decide)
                  obtain ⟨A679, eA679⟩ : ∃ q, q = uA A614 21 (nd).toNat (r615) := ⟨_, rfl⟩
                  rw [← eA679]
                  rw [← eA679] at hW680 hF681
                  have q682 : A679 21 (nd).toNat = r615 := by rw [eA679]; exact uA_eq
                  have hP683 : Pf nd A A679 := eA679 ▸ Pf_a hP652 (z := nd) (by omega) (by omega)
                  have hS684 : Fx sr (sy) A A679 := eA679 ▸ Fx_n hS653 rfl
                  have hV685 : Fx [14] (vi) A A679 := eA679 ▸ Fx_n hV654 rfl
                  have sf686 : ND A679 (nd) (31) (r483) (0) (0) (0) (r615) (0) := ND_f eA679 sf655
                  have sf687 : wE A679 Vs sb (2 * 9 + 2) (r483) (nd2_465) (nd2_487) := wE_ag (by omega) (Sg_ne eA679 rfl) (Ag_st eA679 (by omega) (by omega)) sf656
                  have sf688 : wP A679 (sy2_620) pb (k) (Vs) (r615) (nd2_487) (nd2_619) (sy) (sy2_620) := wP_ag (Sg_ne eA679 rfl) (Qg_ne eA679 rfl) (by omega) (by omega) (Ax_ag (Ag_st eA679 (by omega) (by omega))) a665
                  have sf689 : NX A679 (r615) := NX_r eA679 (by decide) a666
                  have ec690 : ecn A679 (G613 31) = ec2_624 := (ecn_e ((congrFun eA679 15).trans (uA_ne (by decide)))).trans e639
                  refine jx_ld (pc' := 252) (l' := L480) (st' := [.int (i32 (nd))]) rfl (jl_iloadn gL480_2) ?_
                  refine jx_rt (v := some (.int (i32 (nd)))) rfl rfl rfl rfl rfl rfl ?_
                  exact ⟨_, _, _, ln2_616, at2_617, fk2_618, nd2_619, sy2_620, na2_621, vi2_622, lf2_623, ec2_624, rfl, rfl, hW680, hF681, hP683, hS684, hV685, by omega, (e631), (e632), (e633), (e634), (e635), (e636), (e637), (congrFun ((congrFun eA679 3).trans (uA_ne (by decide))) _).trans (e638), ec690, by omega, by omega, by omega, by omega, by omega, by omega, by omega, by omega, by omega, by omega, by first | exact Or.inr ((⟨by omega, by omega, by omega, by omega, by omega, by omega, by omega, (wS_while (u := nd2_487) sf686 (by omega) (by omega) (wE_sb (by omega) (wE_mono (by omega) (by omega) (by omega) sf687)) (wP_eq sf688 (by omega) rfl (by omega) (by omega) (by omega) (by omega) (by omega) (by omega))), (NX_nd sf686), by omega, by omega⟩))⟩
              · have _q := h612
                exact absurd h612 (by omega)
          · have _q : True := trivial
            refine jx_ld (pc' := 228) (l' := L480) (st' := [.ref 66]) rfl (jl_aloadn gL480_0) ?_
            refine jr_get (pc' := 231) (i := 38) (v := .ref 88) rfl rfl (by decide) rfl rfl ?_
            refine jx_ld (pc' := 232) (l' := L480) (st' := [.int (i32 (nd)), .ref 88]) rfl (jl_iloadn gL480_2) ?_
            refine jx_ld (pc' := 233) (l' := L480) (st' := [.ref 66, .int (i32 (nd)), .ref 88]) rfl (jl_aloadn gL480_0) ?_
            refine jx_vr (pc' := 236) (as := []) (st := [.int (i32 (nd)), .ref 88]) rfl rfl rfl rfl ⟨rfl, rfl, Nat.le_of_ble_eq_true rfl⟩ rfl rfl (c_bad (dd := d) (hd := by omega) (hW := hW586)  (fk := fk2_585) (e_fk := show G582 16 = fk2_585 from (e589))    ) (fun o V' hq => ?_)
            obtain ⟨r691, rfl, rfl, b692, q693⟩ := hq
            refine .inr ⟨_, rfl, ?_⟩
            rcases q693 with ⟨rfl, a694⟩ | ⟨rfl, a695⟩
            · have _q : True := trivial
              refine jx_if_eq (pc' := 239) (tg := 243) rfl rfl rfl (by decide) (by decide) (fun h696 => ?_) (fun h696 => ?_)
              · have _q := h696
                exact absurd h696 (by omega)
              · have _q := h696
                refine jx_ar (pc' := 240) (st' := [.int (i32 (0)), .int (i32 (nd)), .ref 88]) rfl rfl rfl rfl ?_
                refine jx_go (tg := 250) rfl rfl ?_
                refine jr_st (pc' := 251) (i := 21) (m := 7000) (z := nd) (y := 0) rfl (by decide) rfl (by decide) (by omega) (by omega) rfl ?_
                have hW698 : Wk G582 (uA A583 21 (nd).toNat (0)) := Wk_a hW586 (show (-2147483648 : Int) ≤ 0 by omega) (show 0 ≤ (2147483647 : Int) by omega)
                have hF699 := Fr_a (z := 0) (k := 21) (n := (nd).toNat) hF591 (by decide)
                obtain ⟨A697, eA697⟩ : ∃ q, q = uA A583 21 (nd).toNat (0) := ⟨_, rfl⟩
                rw [← eA697]
                rw [← eA697] at hW698 hF699
                have q700 : A697 21 (nd).toNat = 0 := by rw [eA697]; exact uA_eq
                have hP701 : Pf nd A A697 := eA697 ▸ Pf_a hP592 (z := nd) (by omega) (by omega)
                have hS702 : Fx sr (sy) A A697 := eA697 ▸ Fx_n hS593 rfl
                have hV703 : Fx [14] (vi) A A697 := eA697 ▸ Fx_n hV594 rfl
                have sf704 : ND A697 (nd) (31) (r483) (0) (0) (0) (0) (0) := ND_f eA697 sf595
                have sf705 : wE A697 Vs sb (2 * 9 + 2) (r483) (nd2_465) (nd2_487) := wE_ag (by omega) (Sg_ne eA697 rfl) (Ag_st eA697 (by omega) (by omega)) sf596
                have ec706 : ecn A697 (G582 31) = ec2_489 := (ecn_e ((congrFun eA697 15).trans (uA_ne (by decide)))).trans ec597
                refine jx_ld (pc' := 252) (l' := L480) (st' := [.int (i32 (nd))]) rfl (jl_iloadn gL480_2) ?_
                refine jx_rt (v := some (.int (i32 (nd)))) rfl rfl rfl rfl rfl rfl ?_
                exact ⟨_, _, _, ln2_584, at2_484, fk2_585, nd2_487, sy, na, vi, A 3 (ln2_584).toNat, ec2_489, rfl, rfl, hW698, hF699, hP701, hS702, hV703, by omega, (e588), ((hF587.1 10 rfl).trans (e494)), (e589), ((hF587.1 31 rfl).trans (e497)), ((hF587.1 19 rfl).trans ((hF491.1 19 rfl).trans ((hF468.1 19 rfl).trans ((hF451.1 19 rfl).trans (e_sy))))), ((hF587.1 28 rfl).trans ((hF491.1 28 rfl).trans ((hF468.1 28 rfl).trans ((hF451.1 28 rfl).trans (e_na))))), ((hF587.1 29 rfl).trans ((hF491.1 29 rfl).trans ((hF468.1 29 rfl).trans ((hF451.1 29 rfl).trans (e_vi))))), (congrFun (((congrFun eA697 3).trans (uA_ne (by decide))).trans ((hF587.2 3 rfl).trans (((congrFun eA572 3).trans (uA_ne (by decide))).trans ((hF491.2 3 rfl).trans ((hF468.2 3 rfl).trans (hF451.2 3 rfl)))))) _), ec706, by omega, by omega, by omega, by omega, by omega, by omega, by omega, by omega, by omega, by omega, by first | exact Or.inl (⟨by omega, by omega⟩)⟩
            · have _q : True := trivial
              exfalso
              omega
      · refine jx_swe (z := 7) (tg := 88) h8 rfl rfl rfl rfl ?_
        refine jx_ld (pc' := 89) (l' := L7) (st' := [.ref 66]) rfl (jl_aloadn gL7_0) ?_
        refine jx_ld (pc' := 90) (l' := L7) (st' := [.int (i32 (G 13)), .ref 66]) rfl (jl_iloadn gL7_3) ?_
        refine jx_ar (pc' := 92) (st' := [.int (i32 (7)), .int (i32 (G 13)), .ref 66]) rfl rfl rfl rfl ?_
        refine jx_icmp_ne (pc' := 95) (tg := 100) rfl rfl rfl (Int.le_trans (by decide : (-2147483648 : Int) ≤ -2147483648) b6.1) (Int.le_trans b6.2 (by decide : (2147483647 : Int) ≤ 2147483647)) (by decide) (by decide) (fun h707 => ?_) (fun h707 => ?_)
        · have _q := h707
          refine jx_ar (pc' := 102) (st' := [.int (i32 (21)), .ref 66]) rfl rfl rfl rfl ?_
          refine jx_ar (pc' := 103) (st' := [.int (i32 (0)), .int (i32 (21)), .ref 66]) rfl rfl rfl rfl ?_
          refine jx_ar (pc' := 104) (st' := [.int (i32 (0)), .int (i32 (0)), .int (i32 (21)), .ref 66]) rfl rfl rfl rfl ?_
          refine jx_ar (pc' := 105) (st' := [.int (i32 (0)), .int (i32 (0)), .int (i32 (0)), .int (i32 (21)), .ref 66]) rfl rfl rfl rfl ?_
          refine jx_ar (pc' := 106) (st' := [.int (i32 (0)), .int (i32 (0)), .int (i32 (0)), .int (i32 (0)), .int (i32 (21)), .ref 66]) rfl rfl rfl rfl ?_
          refine jx_vr (pc' := 109) (as := [.int (i32 (21)), .int (i32 (0)), .int (i32 (0)), .int (i32 (0)), .int (i32 (0))]) (st := []) rfl rfl rfl rfl ⟨rfl, rfl, Nat.le_of_ble_eq_true rfl⟩ rfl rfl (c_node_o (dd := d) (hd := by omega) (hW := hW) (kind := 21) (a := 0) (b := 0) (c := 0) (e := 0) (nd := nd) (e_nd := show G 31 = nd from (e_nd)) (ec := ec) (e_ec := show ecn A (G 31) = ec from e_ec)  (h_kind := ⟨(by decide), (by decide)⟩) (h_a := ⟨(by decide), (by decide)⟩) (h_b := ⟨(by decide), (by decide)⟩) (h_c := ⟨(by decide), (by decide)⟩) (h_e := ⟨(by decide), (by decide)⟩)  (p_0 := by omega) (p_1 := by omega) (p_2 := by omega)) (fun o V' hq => ?_)
          obtain ⟨G708, A709, nd2_710, ec2_711, rfl, rfl, hW712, hF713, hQ714, e715, e716, p717, p718, p719, -⟩ := hq
          have hF721 := Fr_tr hF0 hF713 (Fr_sub (by decide)) (Fr_sub (by decide))
          have hP722 := Pf_tr hP0 hQ714 (by omega)
          have hS723 := Fx_f hS0 hF713 (by decide)
          have hV724 := Fx_f hV0 hF713 (by decide)
          have bnd2_710 : (0 : Int) ≤ nd2_710 ∧ nd2_710 ≤ 6999 := e715 ▸ hW712.1 31
          refine .inr ⟨_, rfl, ?_⟩
          refine jx_ld (pc' := 110) (l' := jSto1 L7 2 (.int (i32 (nd)))) (st' := []) rfl rfl ?_
          obtain ⟨L725, eL725⟩ : ∃ q, q = jSto1 L7 2 (.int (i32 (nd))) := ⟨_, rfl⟩
          rw [← eL725]
          have gL725_0 : jGet L725 0 = some (.ref 66) := eL725 ▸ jg_ne (by decide) gL7_0 rfl
          have gL725_1 : jGet L725 1 = some (.int (i32 (lv))) := eL725 ▸ jg_ne (by decide) gL7_1 rfl
          have gL725_3 : jGet L725 3 = some (.int (i32 (G 13))) := eL725 ▸ jg_ne (by decide) gL7_3 rfl
          have gL725_2 : jGet L725 2 = some (.int (i32 (nd))) := eL725 ▸ jg_eq
          refine jx_ld (pc' := 111) (l' := L725) (st' := [.ref 66]) rfl (jl_aloadn gL725_0) ?_
          refine jx_vr (pc' := 114) (as := []) (st := []) rfl rfl rfl rfl ⟨rfl, rfl, Nat.le_of_ble_eq_true rfl⟩ rfl rfl (c_next (dd := d) (hd := by omega) (hW := hW712)  (ln := ln) (e_ln := show G708 9 = ln from ((hF713.1 9 rfl).trans (e_ln))) (le := le) (e_le := show A709 4 (ln).toNat = le from (congrFun (hF713.2 4 rfl) _).trans (e_le)) (at0 := at0) (e_at0 := show G708 10 = at0 from ((hF713.1 10 rfl).trans (e_at0)))    (p_0 := by omega)) (fun o V' hq => ?_)
          obtain ⟨G726, A727, at2_728, tk2_729, rfl, rfl, hW730, hF731, e732, e733, p734, p735, p736, -⟩ := hq
          have hF738 := Fr_tr hF721 hF731 (Fr_sub (by decide)) (Fr_sub (by decide))
          have hP739 := Pf_f hP722 hF731 (by decide)
          have hS740 := Fx_f hS723 hF731 (by decide)
          have hV741 := Fx_f hV724 hF731 (by decide)
          have sf742 : ND A727 (nd) (21) (0) (0) (0) (0) (0) (0) := ND_ag (by omega) (Ag_fr hF731 (by decide)) p719
          have ec743 : ecn A727 (G726 31) = ec2_711 := (ecn_f (hF731.2 15 rfl) (hF731.1 31 rfl)).trans e716
          have bat2_728 : (0 : Int) ≤ at2_728 ∧ at2_728 ≤ 3002 := e732 ▸ hW730.1 10
          have ztk2_729 := tz_b tk2_729
          have btk2_729 : (0 : Int) ≤ tk2_729 ∧ tk2_729 ≤ 5 := e733 ▸ hW730.1 11
          refine .inl ⟨rfl, ?_⟩
          refine jx_ld (pc' := 115) (l' := L725) (st' := [.ref 66]) rfl (jl_aloadn gL725_0) ?_
          refine jx_vr (pc' := 118) (as := []) (st := []) rfl rfl rfl rfl ⟨rfl, rfl, Nat.le_of_ble_eq_true rfl⟩ rfl rfl (c_endLine (dd := d) (hd := by omega) (hW := hW730)  (ln := ln) (e_ln := show G726 9 = ln from ((hF731.1 9 rfl).trans ((hF713.1 9 rfl).trans (e_ln)))) (li := li) (e_li := show G726 3 = li from ((hF731.1 3 rfl).trans ((hF713.1 3 rfl).trans (e_li)))) (fk := fk) (e_fk := show G726 16 = fk from ((hF731.1 16 rfl).trans ((hF713.1 16 rfl).trans (e_fk)))) (tk0 := tk2_729) (e_tk0 := show G726 11 = tk2_729 from (e733))    (p_0 := by omega)) (fun o V' hq => ?_)
          obtain ⟨G744, A745, ln2_746, fk2_747, rfl, rfl, hW748, hF749, e750, e751, q752⟩ := hq
          have hF753 := Fr_tr hF738 hF749 (Fr_sub (by decide)) (Fr_sub (by decide))
          have hP754 := Pf_f hP739 hF749 (by decide)
          have hS755 := Fx_f hS740 hF749 (by decide)
          have hV756 := Fx_f hV741 hF749 (by decide)
          have sf757 : ND A745 (nd) (21) (0) (0) (0) (0) (0) (0) := ND_ag (by omega) (Ag_fr hF749 (by decide)) sf742
          have ec758 : ecn A745 (G744 31) = ec2_711 := (ecn_f (hF749.2 15 rfl) (hF749.1 31 rfl)).trans ec743
          have bln2_746 : (0 : Int) ≤ ln2_746 ∧ ln2_746 ≤ 3000 := e750 ▸ hW748.1 9
          have bfk2_747 : (0 : Int) ≤ fk2_747 ∧ fk2_747 ≤ 6 := e751 ▸ hW748.1 16
          refine .inl ⟨rfl, ?_⟩
          rcases q752 with ⟨a759, a760, a761, a762, a763⟩ | ⟨a764, a765⟩
          · have _q : True := trivial
            have b766 : (0 : Int) ≤ A 3 (ln2_746).toNat ∧ A 3 (ln2_746).toNat ≤ 3000 := hW.2 3 _
            have lt767 : ln2_746 < li → le < A 3 (ln2_746).toNat := fun hh => LT_nx (LT_ext (((hF749.1 3 rfl).trans ((hF731.1 3 rfl).trans (hF713.1 3 rfl)))) (((hF749.2 3 rfl).trans ((hF731.2 3 rfl).trans (hF713.2 3 rfl)))) (((hF749.2 4 rfl).trans ((hF731.2 4 rfl).trans (hF713.2 4 rfl)))) i_LT) (show G744 3 = li from ((hF749.1 3 rfl).trans ((hF731.1 3 rfl).trans ((hF713.1 3 rfl).trans (e_li))))) (show A745 4 (ln).toNat = le from (congrFun ((hF749.2 4 rfl).trans ((hF731.2 4 rfl).trans (hF713.2 4 rfl))) _).trans (e_le)) (show A745 3 (ln2_746).toNat = A 3 (ln2_746).toNat from (congrFun ((hF749.2 3 rfl).trans ((hF731.2 3 rfl).trans (hF713.2 3 rfl))) _)) (show ln2_746 = ln + 1 by omega) (by omega) hh
            refine jx_ld (pc' := 119) (l' := L725) (st' := [.int (i32 (nd))]) rfl (jl_iloadn gL725_2) ?_
            refine jx_rt (v := some (.int (i32 (nd)))) rfl rfl rfl rfl rfl rfl ?_
            exact ⟨_, _, _, ln2_746, at2_728, fk2_747, nd2_710, sy, na, vi, A 3 (ln2_746).toNat, ec2_711, rfl, rfl, hW748, hF753, hP754, hS755, hV756, by omega, (e750), ((hF749.1 10 rfl).trans (e732)), (e751), ((hF749.1 31 rfl).trans ((hF731.1 31 rfl).trans (e715))), ((hF749.1 19 rfl).trans ((hF731.1 19 rfl).trans ((hF713.1 19 rfl).trans (e_sy)))), ((hF749.1 28 rfl).trans ((hF731.1 28 rfl).trans ((hF713.1 28 rfl).trans (e_na)))), ((hF749.1 29 rfl).trans ((hF731.1 29 rfl).trans ((hF713.1 29 rfl).trans (e_vi)))), (congrFun ((hF749.2 3 rfl).trans ((hF731.2 3 rfl).trans (hF713.2 3 rfl))) _), ec758, by omega, by omega, by omega, by omega, by omega, by omega, by omega, by omega, by omega, by omega, by first | exact Or.inr ((⟨by omega, by omega, by omega, by omega, by omega, by omega, by omega, (wS_skip sf757 (by omega) (by omega)), (NX_nd sf757), by omega, by omega⟩))⟩
          · have _q : True := trivial
            refine jx_ld (pc' := 119) (l' := L725) (st' := [.int (i32 (nd))]) rfl (jl_iloadn gL725_2) ?_
            refine jx_rt (v := some (.int (i32 (nd)))) rfl rfl rfl rfl rfl rfl ?_
            exact ⟨_, _, _, ln2_746, at2_728, fk2_747, nd2_710, sy, na, vi, A 3 (ln2_746).toNat, ec2_711, rfl, rfl, hW748, hF753, hP754, hS755, hV756, by omega, (e750), ((hF749.1 10 rfl).trans (e732)), (e751), ((hF749.1 31 rfl).trans ((hF731.1 31 rfl).trans (e715))), ((hF749.1 19 rfl).trans ((hF731.1 19 rfl).trans ((hF713.1 19 rfl).trans (e_sy)))), ((hF749.1 28 rfl).trans ((hF731.1 28 rfl).trans ((hF713.1 28 rfl).trans (e_na)))), ((hF749.1 29 rfl).trans ((hF731.1 29 rfl).trans ((hF713.1 29 rfl).trans (e_vi)))), (congrFun ((hF749.2 3 rfl).trans ((hF731.2 3 rfl).trans (hF713.2 3 rfl))) _), ec758, by omega, by omega, by omega, by omega, by omega, by omega, by omega, by omega, by omega, by omega, by first | exact Or.inl (⟨by omega, by omega⟩)⟩
        · have _q := h707
          refine jx_ar (pc' := 97) (st' := [.int (i32 (20)), .ref 66]) rfl rfl rfl rfl ?_
          refine jx_go (tg := 102) rfl rfl ?_
          refine jx_ar (pc' := 103) (st' := [.int (i32 (0)), .int (i32 (20)), .ref 66]) rfl rfl rfl rfl ?_
          refine jx_ar (pc' := 104) (st' := [.int (i32 (0)), .int (i32 (0)), .int (i32 (20)), .ref 66]) rfl rfl rfl rfl ?_
          refine jx_ar (pc' := 105) (st' := [.int (i32 (0)), .int (i32 (0)), .int (i32 (0)), .int (i32 (20)), .ref 66]) rfl rfl rfl rfl ?_
          refine jx_ar (pc' := 106) (st' := [.int (i32 (0)), .int (i32 (0)), .int (i32 (0)), .int (i32 (0)), .int (i32 (20)), .ref 66]) rfl rfl rfl rfl ?_
          refine jx_vr (pc' := 109) (as := [.int (i32 (20)), .int (i32 (0)), .int (i32 (0)), .int (i32 (0)), .int (i32 (0))]) (st := []) rfl rfl rfl rfl ⟨rfl, rfl, Nat.le_of_ble_eq_true rfl⟩ rfl rfl (c_node_o (dd := d) (hd := by omega) (hW := hW) (kind := 20) (a := 0) (b := 0) (c := 0) (e := 0) (nd := nd) (e_nd := show G 31 = nd from (e_nd)) (ec := ec) (e_ec := show ecn A (G 31) = ec from e_ec)  (h_kind := ⟨(by decide), (by decide)⟩) (h_a := ⟨(by decide), (by decide)⟩) (h_b := ⟨(by decide), (by decide)⟩) (h_c := ⟨(by decide), (by decide)⟩) (h_e := ⟨(by decide), (by decide)⟩)  (p_0 := by omega) (p_1 := by omega) (p_2 := by omega)) (fun o V' hq => ?_)
          obtain ⟨G768, A769, nd2_770, ec2_771, rfl, rfl, hW772, hF773, hQ774, e775, e776, p777, p778, p779, -⟩ := hq
          have hF781 := Fr_tr hF0 hF773 (Fr_sub (by decide)) (Fr_sub (by decide))
          have hP782 := Pf_tr hP0 hQ774 (by omega)
          have hS783 := Fx_f hS0 hF773 (by decide)
          have hV784 := Fx_f hV0 hF773 (by decide)
          have bnd2_770 : (0 : Int) ≤ nd2_770 ∧ nd2_770 ≤ 6999 := e775 ▸ hW772.1 31
          refine .inr ⟨_, rfl, ?_⟩
          refine jx_ld (pc' := 110) (l' := jSto1 L7 2 (.int (i32 (nd)))) (st' := []) rfl rfl ?_
          obtain ⟨L785, eL785⟩ : ∃ q, q = jSto1 L7 2 (.int (i32 (nd))) := ⟨_, rfl⟩
          rw [← eL785]
          have gL785_0 : jGet L785 0 = some (.ref 66) := eL785 ▸ jg_ne (by decide) gL7_0 rfl
          have gL785_1 : jGet L785 1 = some (.int (i32 (lv))) := eL785 ▸ jg_ne (by decide) gL7_1 rfl
          have gL785_3 : jGet L785 3 = some (.int (i32 (G 13))) := eL785 ▸ jg_ne (by decide) gL7_3 rfl
          have gL785_2 : jGet L785 2 = some (.int (i32 (nd))) := eL785 ▸ jg_eq
          refine jx_ld (pc' := 111) (l' := L785) (st' := [.ref 66]) rfl (jl_aloadn gL785_0) ?_
          refine jx_vr (pc' := 114) (as := []) (st := []) rfl rfl rfl rfl ⟨rfl, rfl, Nat.le_of_ble_eq_true rfl⟩ rfl rfl (c_next (dd := d) (hd := by omega) (hW := hW772)  (ln := ln) (e_ln := show G768 9 = ln from ((hF773.1 9 rfl).trans (e_ln))) (le := le) (e_le := show A769 4 (ln).toNat = le from (congrFun (hF773.2 4 rfl) _).trans (e_le)) (at0 := at0) (e_at0 := show G768 10 = at0 from ((hF773.1 10 rfl).trans (e_at0)))    (p_0 := by omega)) (fun o V' hq => ?_)
          obtain ⟨G786, A787, at2_788, tk2_789, rfl, rfl, hW790, hF791, e792, e793, p794, p795, p796, -⟩ := hq
          have hF798 := Fr_tr hF781 hF791 (Fr_sub (by decide)) (Fr_sub (by decide))
          have hP799 := Pf_f hP782 hF791 (by decide)
          have hS800 := Fx_f hS783 hF791 (by decide)
          have hV801 := Fx_f hV784 hF791 (by decide)
          have sf802 : ND A787 (nd) (20) (0) (0) (0) (0) (0) (0) := ND_ag (by omega) (Ag_fr hF791 (by decide)) p779
          have ec803 : ecn A787 (G786 31) = ec2_771 := (ecn_f (hF791.2 15 rfl) (hF791.1 31 rfl)).trans e776
          have bat2_788 : (0 : Int) ≤ at2_788 ∧ at2_788 ≤ 3002 := e792 ▸ hW790.1 10
          have ztk2_789 := tz_b tk2_789
          have btk2_789 : (0 : Int) ≤ tk2_789 ∧ tk2_789 ≤ 5 := e793 ▸ hW790.1 11
          refine .inl ⟨rfl, ?_⟩
          refine jx_ld (pc' := 115) (l' := L785) (st' := [.ref 66]) rfl (jl_aloadn gL785_0) ?_
          refine jx_vr (pc' := 118) (as := []) (st := []) rfl rfl rfl rfl ⟨rfl, rfl, Nat.le_of_ble_eq_true rfl⟩ rfl rfl (c_endLine (dd := d) (hd := by omega) (hW := hW790)  (ln := ln) (e_ln := show G786 9 = ln from ((hF791.1 9 rfl).trans ((hF773.1 9 rfl).trans (e_ln)))) (li := li) (e_li := show G786 3 = li from ((hF791.1 3 rfl).trans ((hF773.1 3 rfl).trans (e_li)))) (fk := fk) (e_fk := show G786 16 = fk from ((hF791.1 16 rfl).trans ((hF773.1 16 rfl).trans (e_fk)))) (tk0 := tk2_789) (e_tk0 := show G786 11 = tk2_789 from (e793))    (p_0 := by omega)) (fun o V' hq => ?_)
          obtain ⟨G804, A805, ln2_806, fk2_807, rfl, rfl, hW808, hF809, e810, e811, q812⟩ := hq
          have hF813 := Fr_tr hF798 hF809 (Fr_sub (by decide)) (Fr_sub (by decide))
          have hP814 := Pf_f hP799 hF809 (by decide)
          have hS815 := Fx_f hS800 hF809 (by decide)
          have hV816 := Fx_f hV801 hF809 (by decide)
          have sf817 : ND A805 (nd) (20) (0) (0) (0) (0) (0) (0) := ND_ag (by omega) (Ag_fr hF809 (by decide)) sf802
          have ec818 : ecn A805 (G804 31) = ec2_771 := (ecn_f (hF809.2 15 rfl) (hF809.1 31 rfl)).trans ec803
          have bln2_806 : (0 : Int) ≤ ln2_806 ∧ ln2_806 ≤ 3000 := e810 ▸ hW808.1 9
          have bfk2_807 : (0 : Int) ≤ fk2_807 ∧ fk2_807 ≤ 6 := e811 ▸ hW808.1 16
          refine .inl ⟨rfl, ?_⟩
          rcases q812 with ⟨a819, a820, a821, a822, a823⟩ | ⟨a824, a825⟩
          · have _q : True := trivial
            have b826 : (0 : Int) ≤ A 3 (ln2_806).toNat ∧ A 3 (ln2_806).toNat ≤ 3000 := hW.2 3 _
            have lt827 : ln2_806 < li → le < A 3 (ln2_806).toNat := fun hh => LT_nx (LT_ext (((hF809.1 3 rfl).trans ((hF791.1 3 rfl).trans (hF773.1 3 rfl)))) (((hF809.2 3 rfl).trans ((hF791.2 3 rfl).trans (hF773.2 3 rfl)))) (((hF809.2 4 rfl).trans ((hF791.2 4 rfl).trans (hF773.2 4 rfl)))) i_LT) (show G804 3 = li from ((hF809.1 3 rfl).trans ((hF791.1 3 rfl).trans ((hF773.1 3 rfl).trans (e_li))))) (show A805 4 (ln).toNat = le from (congrFun ((hF809.2 4 rfl).trans ((hF791.2 4 rfl).trans (hF773.2 4 rfl))) _).trans (e_le)) (show A805 3 (ln2_806).toNat = A 3 (ln2_806).toNat from (congrFun ((hF809.2 3 rfl).trans ((hF791.2 3 rfl).trans (hF773.2 3 rfl))) _)) (show ln2_806 = ln + 1 by omega) (by omega) hh
            refine jx_ld (pc' := 119) (l' := L785) (st' := [.int (i32 (nd))]) rfl (jl_iloadn gL785_2) ?_
            refine jx_rt (v := some (.int (i32 (nd)))) rfl rfl rfl rfl rfl rfl ?_
            exact ⟨_, _, _, ln2_806, at2_788, fk2_807, nd2_770, sy, na, vi, A 3 (ln2_806).toNat, ec2_771, rfl, rfl, hW808, hF813, hP814, hS815, hV816, by omega, (e810), ((hF809.1 10 rfl).trans (e792)), (e811), ((hF809.1 31 rfl).trans ((hF791.1 31 rfl).trans (e775))), ((hF809.1 19 rfl).trans ((hF791.1 19 rfl).trans ((hF773.1 19 rfl).trans (e_sy)))), ((hF809.1 28 rfl).trans ((hF791.1 28 rfl).trans ((hF773.1 28 rfl).trans (e_na)))), ((hF809.1 29 rfl).trans ((hF791.1 29 rfl).trans ((hF773.1 29 rfl).trans (e_vi)))), (congrFun ((hF809.2 3 rfl).trans ((hF791.2 3 rfl).trans (hF773.2 3 rfl))) _), ec818, by omega, by omega, by omega, by omega, by omega, by omega, by omega, by omega, by omega, by omega, by first | exact Or.inr ((⟨by omega, by omega, by omega, by omega, by omega, by omega, by omega, (wS_skip sf817 (by omega) (by omega)), (NX_nd sf817), by omega, by omega⟩))⟩
          · have _q : True := trivial
            refine jx_ld (pc' := 119) (l' := L785) (st' := [.int (i32 (nd))]) rfl (jl_iloadn gL785_2) ?_
            refine jx_rt (v := some (.int (i32 (nd)))) rfl rfl rfl rfl rfl rfl ?_
            exact ⟨_, _, _, ln2_806, at2_788, fk2_807, nd2_770, sy, na, vi, A 3 (ln2_806).toNat, ec2_771, rfl, rfl, hW808, hF813, hP814, hS815, hV816, by omega, (e810), ((hF809.1 10 rfl).trans (e792)), (e811), ((hF809.1 31 rfl).trans ((hF791.1 31 rfl).trans (e775))), ((hF809.1 19 rfl).trans ((hF791.1 19 rfl).trans ((hF773.1 19 rfl).trans (e_sy)))), ((hF809.1 28 rfl).trans ((hF791.1 28 rfl).trans ((hF773.1 28 rfl).trans (e_na)))), ((hF809.1 29 rfl).trans ((hF791.1 29 rfl).trans ((hF773.1 29 rfl).trans (e_vi)))), (congrFun ((hF809.2 3 rfl).trans ((hF791.2 3 rfl).trans (hF773.2 3 rfl))) _), ec818, by omega, by omega, by omega, by omega, by omega, by omega, by omega, by omega, by omega, by omega, by first | exact Or.inl (⟨by omega, by omega⟩)⟩
      · refine jx_swe (z := 8) (tg := 88) h8 rfl rfl rfl rfl ?_
        refine jx_ld (pc' := 89) (l' := L7) (st' := [.ref 66]) rfl (jl_aloadn gL7_0) ?_
        refine jx_ld (pc' := 90) (l' := L7) (st' := [.int (i32 (G 13)), .ref 66]) rfl (jl_iloadn gL7_3) ?_
        refine jx_ar (pc' := 92) (st' := [.int (i32 (7)), .int (i32 (G 13)), .ref 66]) rfl rfl rfl rfl ?_
        refine jx_icmp_ne (pc' := 95) (tg := 100) rfl rfl rfl (Int.le_trans (by decide : (-2147483648 : Int) ≤ -2147483648) b6.1) (Int.le_trans b6.2 (by decide : (2147483647 : Int) ≤ 2147483647)) (by decide) (by decide) (fun h828 => ?_) (fun h828 => ?_)
        · have _q := h828
          refine jx_ar (pc' := 102) (st' := [.int (i32 (21)), .ref 66]) rfl rfl rfl rfl ?_
          refine jx_ar (pc' := 103) (st' := [.int (i32 (0)), .int (i32 (21)), .ref 66]) rfl rfl rfl rfl ?_
          refine jx_ar (pc' := 104) (st' := [.int (i32 (0)), .int (i32 (0)), .int (i32 (21)), .ref 66]) rfl rfl rfl rfl ?_
          refine jx_ar (pc' := 105) (st' := [.int (i32 (0)), .int (i32 (0)), .int (i32 (0)), .int (i32 (21)), .ref 66]) rfl rfl rfl rfl ?_
          refine jx_ar (pc' := 106) (st' := [.int (i32 (0)), .int (i32 (0)), .int (i32 (0)), .int (i32 (0)), .int (i32 (21)), .ref 66]) rfl rfl rfl rfl ?_
          refine jx_vr (pc' := 109) (as := [.int (i32 (21)), .int (i32 (0)), .int (i32 (0)), .int (i32 (0)), .int (i32 (0))]) (st := []) rfl rfl rfl rfl ⟨rfl, rfl, Nat.le_of_ble_eq_true rfl⟩ rfl rfl (c_node_o (dd := d) (hd := by omega) (hW := hW) (kind := 21) (a := 0) (b := 0) (c := 0) (e := 0) (nd := nd) (e_nd := show G 31 = nd from (e_nd)) (ec := ec) (e_ec := show ecn A (G 31) = ec from e_ec)  (h_kind := ⟨(by decide), (by decide)⟩) (h_a := ⟨(by decide), (by decide)⟩) (h_b := ⟨(by decide), (by decide)⟩) (h_c := ⟨(by decide), (by decide)⟩) (h_e := ⟨(by decide), (by decide)⟩)  (p_0 := by omega) (p_1 := by omega) (p_2 := by omega)) (fun o V' hq => ?_)
          obtain ⟨G829, A830, nd2_831, ec2_832, rfl, rfl, hW833, hF834, hQ835, e836, e837, p838, p839, p840, -⟩ := hq
          have hF842 := Fr_tr hF0 hF834 (Fr_sub (by decide)) (Fr_sub (by decide))
          have hP843 := Pf_tr hP0 hQ835 (by omega)
          have hS844 := Fx_f hS0 hF834 (by decide)
          have hV845 := Fx_f hV0 hF834 (by decide)
          have bnd2_831 : (0 : Int) ≤ nd2_831 ∧ nd2_831 ≤ 6999 := e836 ▸ hW833.1 31
          refine .inr ⟨_, rfl, ?_⟩
          refine jx_ld (pc' := 110) (l' := jSto1 L7 2 (.int (i32 (nd)))) (st' := []) rfl rfl ?_
          obtain ⟨L846, eL846⟩ : ∃ q, q = jSto1 L7 2 (.int (i32 (nd))) := ⟨_, rfl⟩
          rw [← eL846]
          have gL846_0 : jGet L846 0 = some (.ref 66) := eL846 ▸ jg_ne (by decide) gL7_0 rfl
          have gL846_1 : jGet L846 1 = some (.int (i32 (lv))) := eL846 ▸ jg_ne (by decide) gL7_1 rfl
          have gL846_3 : jGet L846 3 = some (.int (i32 (G 13))) := eL846 ▸ jg_ne (by decide) gL7_3 rfl
          have gL846_2 : jGet L846 2 = some (.int (i32 (nd))) := eL846 ▸ jg_eq
          refine jx_ld (pc' := 111) (l' := L846) (st' := [.ref 66]) rfl (jl_aloadn gL846_0) ?_
          refine jx_vr (pc' := 114) (as := []) (st := []) rfl rfl rfl rfl ⟨rfl, rfl, Nat.le_of_ble_eq_true rfl⟩ rfl rfl (c_next (dd := d) (hd := by omega) (hW := hW833)  (ln := ln) (e_ln := show G829 9 = ln from ((hF834.1 9 rfl).trans (e_ln))) (le := le) (e_le := show A830 4 (ln).toNat = le from (congrFun (hF834.2 4 rfl) _).trans (e_le)) (at0 := at0) (e_at0 := show G829 10 = at0 from ((hF834.1 10 rfl).trans (e_at0)))    (p_0 := by omega)) (fun o V' hq => ?_)
          obtain ⟨G847, A848, at2_849, tk2_850, rfl, rfl, hW851, hF852, e853, e854, p855, p856, p857, -⟩ := hq
          have hF859 := Fr_tr hF842 hF852 (Fr_sub (by decide)) (Fr_sub (by decide))
          have hP860 := Pf_f hP843 hF852 (by decide)
          have hS861 := Fx_f hS844 hF852 (by decide)
          have hV862 := Fx_f hV845 hF852 (by decide)
          have sf863 : ND A848 (nd) (21) (0) (0) (0) (0) (0) (0) := ND_ag (by omega) (Ag_fr hF852 (by decide)) p840
          have ec864 : ecn A848 (G847 31) = ec2_832 := (ecn_f (hF852.2 15 rfl) (hF852.1 31 rfl)).trans e837
          have bat2_849 : (0 : Int) ≤ at2_849 ∧ at2_849 ≤ 3002 := e853 ▸ hW851.1 10
          have ztk2_850 := tz_b tk2_850
          have btk2_850 : (0 : Int) ≤ tk2_850 ∧ tk2_850 ≤ 5 := e854 ▸ hW851.1 11
          refine .inl ⟨rfl, ?_⟩
          refine jx_ld (pc' := 115) (l' := L846) (st' := [.ref 66]) rfl (jl_aloadn gL846_0) ?_
          refine jx_vr (pc' := 118) (as := []) (st := []) rfl rfl rfl rfl ⟨rfl, rfl, Nat.le_of_ble_eq_true rfl⟩ rfl rfl (c_endLine (dd := d) (hd := by omega) (hW := hW851)  (ln := ln) (e_ln := show G847 9 = ln from ((hF852.1 9 rfl).trans ((hF834.1 9 rfl).trans (e_ln)))) (li := li) (e_li := show G847 3 = li from ((hF852.1 3 rfl).trans ((hF834.1 3 rfl).trans (e_li)))) (fk := fk) (e_fk := show G847 16 = fk from ((hF852.1 16 rfl).trans ((hF834.1 16 rfl).trans (e_fk)))) (tk0 := tk2_850) (e_tk0 := show G847 11 = tk2_850 from (e854))    (p_0 := by omega)) (fun o V' hq => ?_)
          obtain ⟨G865, A866, ln2_867, fk2_868, rfl, rfl, hW869, hF870, e871, e872, q873⟩ := hq
          have hF874 := Fr_tr hF859 hF870 (Fr_sub (by decide)) (Fr_sub (by decide))
          have hP875 := Pf_f hP860 hF870 (by decide)
          have hS876 := Fx_f hS861 hF870 (by decide)
          have hV877 := Fx_f hV862 hF870 (by decide)
          have sf878 : ND A866 (nd) (21) (0) (0) (0) (0) (0) (0) := ND_ag (by omega) (Ag_fr hF870 (by decide)) sf863
          have ec879 : ecn A866 (G865 31) = ec2_832 := (ecn_f (hF870.2 15 rfl) (hF870.1 31 rfl)).trans ec864
          have bln2_867 : (0 : Int) ≤ ln2_867 ∧ ln2_867 ≤ 3000 := e871 ▸ hW869.1 9
          have bfk2_868 : (0 : Int) ≤ fk2_868 ∧ fk2_868 ≤ 6 := e872 ▸ hW869.1 16
          refine .inl ⟨rfl, ?_⟩
          rcases q873 with ⟨a880, a881, a882, a883, a884⟩ | ⟨a885, a886⟩
          · have _q : True := trivial
            have b887 : (0 : Int) ≤ A 3 (ln2_867).toNat ∧ A 3 (ln2_867).toNat ≤ 3000 := hW.2 3 _
            have lt888 : ln2_867 < li → le < A 3 (ln2_867).toNat := fun hh => LT_nx (LT_ext (((hF870.1 3 rfl).trans ((hF852.1 3 rfl).trans (hF834.1 3 rfl)))) (((hF870.2 3 rfl).trans ((hF852.2 3 rfl).trans (hF834.2 3 rfl)))) (((hF870.2 4 rfl).trans ((hF852.2 4 rfl).trans (hF834.2 4 rfl)))) i_LT) (show G865 3 = li from ((hF870.1 3 rfl).trans ((hF852.1 3 rfl).trans ((hF834.1 3 rfl).trans (e_li))))) (show A866 4 (ln).toNat = le from (congrFun ((hF870.2 4 rfl).trans ((hF852.2 4 rfl).trans (hF834.2 4 rfl))) _).trans (e_le)) (show A866 3 (ln2_867).toNat = A 3 (ln2_867).toNat from (congrFun ((hF870.2 3 rfl).trans ((hF852.2 3 rfl).trans (hF834.2 3 rfl))) _)) (show ln2_867 = ln + 1 by omega) (by omega) hh
            refine jx_ld (pc' := 119) (l' := L846) (st' := [.int (i32 (nd))]) rfl (jl_iloadn gL846_2) ?_
            refine jx_rt (v := some (.int (i32 (nd)))) rfl rfl rfl rfl rfl rfl ?_
            exact ⟨_, _, _, ln2_867, at2_849, fk2_868, nd2_831, sy, na, vi, A 3 (ln2_867).toNat, ec2_832, rfl, rfl, hW869, hF874, hP875, hS876, hV877, by omega, (e871), ((hF870.1 10 rfl).trans (e853)), (e872), ((hF870.1 31 rfl).trans ((hF852.1 31 rfl).trans (e836))), ((hF870.1 19 rfl).trans ((hF852.1 19 rfl).trans ((hF834.1 19 rfl).trans (e_sy)))), ((hF870.1 28 rfl).trans ((hF852.1 28 rfl).trans ((hF834.1 28 rfl).trans (e_na)))), ((hF870.1 29 rfl).trans ((hF852.1 29 rfl).trans ((hF834.1 29 rfl).trans (e_vi)))), (congrFun ((hF870.2 3 rfl).trans ((hF852.2 3 rfl).trans (hF834.2 3 rfl))) _), ec879, by omega, by omega, by omega, by omega, by omega, by omega, by omega, by omega, by omega, by omega, by first | exact Or.inr ((⟨by omega, by omega, by omega, by omega, by omega, by omega, by omega, (wS_skip sf878 (by omega) (by omega)), (NX_nd sf878), by omega, by omega⟩))⟩
          · have _q : True := trivial
            refine jx_ld (pc' := 119) (l' := L846) (st' := [.int (i32 (nd))]) rfl (jl_iloadn gL846_2) ?_
            refine jx_rt (v := some (.int (i32 (nd)))) rfl rfl rfl rfl rfl rfl ?_
            exact ⟨_, _, _, ln2_867, at2_849, fk2_868, nd2_831, sy, na, vi, A 3 (ln2_867).toNat, ec2_832, rfl, rfl, hW869, hF874, hP875, hS876, hV877, by omega, (e871), ((hF870.1 10 rfl).trans (e853)), (e872), ((hF870.1 31 rfl).trans ((hF852.1 31 rfl).trans (e836))), ((hF870.1 19 rfl).trans ((hF852.1 19 rfl).trans ((hF834.1 19 rfl).trans (e_sy)))), ((hF870.1 28 rfl).trans ((hF852.1 28 rfl).trans ((hF834.1 28 rfl).trans (e_na)))), ((hF870.1 29 rfl).trans ((hF852.1 29 rfl).trans ((hF834.1 29 rfl).trans (e_vi)))), (congrFun ((hF870.2 3 rfl).trans ((hF852.2 3 rfl).trans (hF834.2 3 rfl))) _), ec879, by omega, by omega, by omega, by omega, by omega, by omega, by omega, by omega, by omega, by omega, by first | exact Or.inl (⟨by omega, by omega⟩)⟩
        · have _q := h828
          refine jx_ar (pc' := 97) (st' := [.int (i32 (20)), .ref 66]) rfl rfl rfl rfl ?_
          refine jx_go (tg := 102) rfl rfl ?_
          refine jx_ar (pc' := 103) (st' := [.int (i32 (0)), .int (i32 (20)), .ref 66]) rfl rfl rfl rfl ?_
          refine jx_ar (pc' := 104) (st' := [.int (i32 (0)), .int (i32 (0)), .int (i32 (20)), .ref 66]) rfl rfl rfl rfl ?_
          refine jx_ar (pc' := 105) (st' := [.int (i32 (0)), .int (i32 (0)), .int (i32 (0)), .int (i32 (20)), .ref 66]) rfl rfl rfl rfl ?_
          refine jx_ar (pc' := 106) (st' := [.int (i32 (0)), .int (i32 (0)), .int (i32 (0)), .int (i32 (0)), .int (i32 (20)), .ref 66]) rfl rfl rfl rfl ?_
          refine jx_vr (pc' := 109) (as := [.int (i32 (20)), .int (i32 (0)), .int (i32 (0)), .int (i32 (0)), .int (i32 (0))]) (st := []) rfl rfl rfl rfl ⟨rfl, rfl, Nat.le_of_ble_eq_true rfl⟩ rfl rfl (c_node_o (dd := d) (hd := by omega) (hW := hW) (kind := 20) (a := 0) (b := 0) (c := 0) (e := 0) (nd := nd) (e_nd := show G 31 = nd from (e_nd)) (ec := ec) (e_ec := show ecn A (G 31) = ec from e_ec)  (h_kind := ⟨(by decide), (by decide)⟩) (h_a := ⟨(by decide), (by decide)⟩) (h_b := ⟨(by decide), (by decide)⟩) (h_c := ⟨(by decide), (by decide)⟩) (h_e := ⟨(by decide), (by decide)⟩)  (p_0 := by omega) (p_1 := by omega) (p_2 := by omega)) (fun o V' hq => ?_)
          obtain ⟨G889, A890, nd2_891, ec2_892, rfl, rfl, hW893, hF894, hQ895, e896, e897, p898, p899, p900, -⟩ := hq
          have hF902 := Fr_tr hF0 hF894 (Fr_sub (by decide)) (Fr_sub (by decide))
          have hP903 := Pf_tr hP0 hQ895 (by omega)
          have hS904 := Fx_f hS0 hF894 (by decide)
          have hV905 := Fx_f hV0 hF894 (by decide)
          have bnd2_891 : (0 : Int) ≤ nd2_891 ∧ nd2_891 ≤ 6999 := e896 ▸ hW893.1 31
          refine .inr ⟨_, rfl, ?_⟩
          refine jx_ld (pc' := 110) (l' := jSto1 L7 2 (.int (i32 (nd)))) (st' := []) rfl rfl ?_
          obtain ⟨L906, eL906⟩ : ∃ q, q = jSto1 L7 2 (.int (i32 (nd))) := ⟨_, rfl⟩
          rw [← eL906]
          have gL906_0 : jGet L906 0 = some (.ref 66) := eL906 ▸ jg_ne (by decide) gL7_0 rfl
          have gL906_1 : jGet L906 1 = some (.int (i32 (lv))) := eL906 ▸ jg_ne (by decide) gL7_1 rfl
          have gL906_3 : jGet L906 3 = some (.int (i32 (G 13))) := eL906 ▸ jg_ne (by decide) gL7_3 rfl
          have gL906_2 : jGet L906 2 = some (.int (i32 (nd))) := eL906 ▸ jg_eq
          refine jx_ld (pc' := 111) (l' := L906) (st' := [.ref 66]) rfl (jl_aloadn gL906_0) ?_
          refine jx_vr (pc' := 114) (as := []) (st := []) rfl rfl rfl rfl ⟨rfl, rfl, Nat.le_of_ble_eq_true rfl⟩ rfl rfl (c_next (dd := d) (hd := by omega) (hW := hW893)  (ln := ln) (e_ln := show G889 9 = ln from ((hF894.1 9 rfl).trans (e_ln))) (le := le) (e_le := show A890 4 (ln).toNat = le from (congrFun (hF894.2 4 rfl) _).trans (e_le)) (at0 := at0) (e_at0 := show G889 10 = at0 from ((hF894.1 10 rfl).trans (e_at0)))    (p_0 := by omega)) (fun o V' hq => ?_)
          obtain ⟨G907, A908, at2_909, tk2_910, rfl, rfl, hW911, hF912, e913, e914, p915, p916, p917, -⟩ := hq
          have hF919 := Fr_tr hF902 hF912 (Fr_sub (by decide)) (Fr_sub (by decide))
          have hP920 := Pf_f hP903 hF912 (by decide)
          have hS921 := Fx_f hS904 hF912 (by decide)
          have hV922 := Fx_f hV905 hF912 (by decide)
          have sf923 : ND A908 (nd) (20) (0) (0) (0) (0) (0) (0) := ND_ag (by omega) (Ag_fr hF912 (by decide)) p900
          have ec924 : ecn A908 (G907 31) = ec2_892 := (ecn_f (hF912.2 15 rfl) (hF912.1 31 rfl)).trans e897
          have bat2_909 : (0 : Int) ≤ at2_909 ∧ at2_909 ≤ 3002 := e913 ▸ hW911.1 10
          have ztk2_910 := tz_b tk2_910
          have btk2_910 : (0 : Int) ≤ tk2_910 ∧ tk2_910 ≤ 5 := e914 ▸ hW911.1 11
          refine .inl ⟨rfl, ?_⟩
          refine jx_ld (pc' := 115) (l' := L906) (st' := [.ref 66]) rfl (jl_aloadn gL906_0) ?_
          refine jx_vr (pc' := 118) (as := []) (st := []) rfl rfl rfl rfl ⟨rfl, rfl, Nat.le_of_ble_eq_true rfl⟩ rfl rfl (c_endLine (dd := d) (hd := by omega) (hW := hW911)  (ln := ln) (e_ln := show G907 9 = ln from ((hF912.1 9 rfl).trans ((hF894.1 9 rfl).trans (e_ln)))) (li := li) (e_li := show G907 3 = li from ((hF912.1 3 rfl).trans ((hF894.1 3 rfl).trans (e_li)))) (fk := fk) (e_fk := show G907 16 = fk from ((hF912.1 16 rfl).trans ((hF894.1 16 rfl).trans (e_fk)))) (tk0 := tk2_910) (e_tk0 := show G907 11 = tk2_910 from (e914))    (p_0 := by omega)) (fun o V' hq => ?_)
          obtain ⟨G925, A926, ln2_927, fk2_928, rfl, rfl, hW929, hF930, e931, e932, q933⟩ := hq
          have hF934 := Fr_tr hF919 hF930 (Fr_sub (by decide)) (Fr_sub (by decide))
          have hP935 := Pf_f hP920 hF930 (by decide)
          have hS936 := Fx_f hS921 hF930 (by decide)
          have hV937 := Fx_f hV922 hF930 (by decide)
          have sf938 : ND A926 (nd) (20) (0) (0) (0) (0) (0) (0) := ND_ag (by omega) (Ag_fr hF930 (by decide)) sf923
          have ec939 : ecn A926 (G925 31) = ec2_892 := (ecn_f (hF930.2 15 rfl) (hF930.1 31 rfl)).trans ec924
          have bln2_927 : (0 : Int) ≤ ln2_927 ∧ ln2_927 ≤ 3000 := e931 ▸ hW929.1 9
          have bfk2_928 : (0 : Int) ≤ fk2_928 ∧ fk2_928 ≤ 6 := e932 ▸ hW929.1 16
          refine .inl ⟨rfl, ?_⟩
          rcases q933 with ⟨a940, a941, a942, a943, a944⟩ | ⟨a945, a946⟩
          · have _q : True := trivial
            have b947 : (0 : Int) ≤ A 3 (ln2_927).toNat ∧ A 3 (ln2_927).toNat ≤ 3000 := hW.2 3 _
            have lt948 : ln2_927 < li → le < A 3 (ln2_927).toNat := fun hh => LT_nx (LT_ext (((hF930.1 3 rfl).trans ((hF912.1 3 rfl).trans (hF894.1 3 rfl)))) (((hF930.2 3 rfl).trans ((hF912.2 3 rfl).trans (hF894.2 3 rfl)))) (((hF930.2 4 rfl).trans ((hF912.2 4 rfl).trans (hF894.2 4 rfl)))) i_LT) (show G925 3 = li from ((hF930.1 3 rfl).trans ((hF912.1 3 rfl).trans ((hF894.1 3 rfl).trans (e_li))))) (show A926 4 (ln).toNat = le from (congrFun ((hF930.2 4 rfl).trans ((hF912.2 4 rfl).trans (hF894.2 4 rfl))) _).trans (e_le)) (show A926 3 (ln2_927).toNat = A 3 (ln2_927).toNat from (congrFun ((hF930.2 3 rfl).trans ((hF912.2 3 rfl).trans (hF894.2 3 rfl))) _)) (show ln2_927 = ln + 1 by omega) (by omega) hh
            refine jx_ld (pc' := 119) (l' := L906) (st' := [.int (i32 (nd))]) rfl (jl_iloadn gL906_2) ?_
            refine jx_rt (v := some (.int (i32 (nd)))) rfl rfl rfl rfl rfl rfl ?_
            exact ⟨_, _, _, ln2_927, at2_909, fk2_928, nd2_891, sy, na, vi, A 3 (ln2_927).toNat, ec2_892, rfl, rfl, hW929, hF934, hP935, hS936, hV937, by omega, (e931), ((hF930.1 10 rfl).trans (e913)), (e932), ((hF930.1 31 rfl).trans ((hF912.1 31 rfl).trans (e896))), ((hF930.1 19 rfl).trans ((hF912.1 19 rfl).trans ((hF894.1 19 rfl).trans (e_sy)))), ((hF930.1 28 rfl).trans ((hF912.1 28 rfl).trans ((hF894.1 28 rfl).trans (e_na)))), ((hF930.1 29 rfl).trans ((hF912.1 29 rfl).trans ((hF894.1 29 rfl).trans (e_vi)))), (congrFun ((hF930.2 3 rfl).trans ((hF912.2 3 rfl).trans (hF894.2 3 rfl))) _), ec939, by omega, by omega, by omega, by omega, by omega, by omega, by omega, by omega, by omega, by omega, by first | exact Or.inr ((⟨by omega, by omega, by omega, by omega, by omega, by omega, by omega, (wS_skip sf938 (by omega) (by omega)), (NX_nd sf938), by omega, by omega⟩))⟩
          · have _q : True := trivial
            refine jx_ld (pc' := 119) (l' := L906) (st' := [.int (i32 (nd))]) rfl (jl_iloadn gL906_2) ?_
            refine jx_rt (v := some (.int (i32 (nd)))) rfl rfl rfl rfl rfl rfl ?_
            exact ⟨_, _, _, ln2_927, at2_909, fk2_928, nd2_891, sy, na, vi, A 3 (ln2_927).toNat, ec2_892, rfl, rfl, hW929, hF934, hP935, hS936, hV937, by omega, (e931), ((hF930.1 10 rfl).trans (e913)), (e932), ((hF930.1 31 rfl).trans ((hF912.1 31 rfl).trans (e896))), ((hF930.1 19 rfl).trans ((hF912.1 19 rfl).trans ((hF894.1 19 rfl).trans (e_sy)))), ((hF930.1 28 rfl).trans ((hF912.1 28 rfl).trans ((hF894.1 28 rfl).trans (e_na)))), ((hF930.1 29 rfl).trans ((hF912.1 29 rfl).trans ((hF894.1 29 rfl).trans (e_vi)))), (congrFun ((hF930.2 3 rfl).trans ((hF912.2 3 rfl).trans (hF894.2 3 rfl))) _), ec939, by omega, by omega, by omega, by omega, by omega, by omega, by omega, by omega, by omega, by omega, by first | exact Or.inl (⟨by omega, by omega⟩)⟩
      · refine jx_swt (tg := 259) (by omega) (by omega) rfl h8 rfl ?_
        refine jx_ld (pc' := 260) (l' := L7) (st' := [.ref 66]) rfl (jl_aloadn gL7_0) ?_
        refine jx_ar (pc' := 261) (st' := [.int (i32 (1)), .ref 66]) rfl rfl rfl rfl ?_
        refine jx_ld (pc' := 262) (l' := L7) (st' := [.ref 66, .int (i32 (1)), .ref 66]) rfl (jl_aloadn gL7_0) ?_
        have b949 : (-3000 : Int) ≤ G 12 ∧ G 12 ≤ 3002 := hW.1 12
        refine jr_get (pc' := 265) (i := 12) (v := .int (i32 (G 12))) rfl rfl (by decide) rfl rfl ?_
        refine jx_vr (pc' := 268) (as := [.int (i32 (1)), .int (i32 (G 12))]) (st := []) rfl rfl rfl rfl ⟨rfl, rfl, Nat.le_of_ble_eq_true rfl⟩ rfl rfl (c_fail (dd := d) (hd := by omega) (hW := hW) (kind := 1) (place := G 12) (fk := fk) (e_fk := show G 16 = fk from (e_fk))  (h_kind := ⟨(by decide), (by decide)⟩) (h_place := ⟨(Int.le_trans (by decide : (-2147483648 : Int) ≤ -3000) b949.1), (Int.le_trans b949.2 (by decide : (3002 : Int) ≤ 2147483647))⟩)  (p_0 := by omega) (p_1 := by omega)) (fun o V' hq => ?_)
        obtain ⟨G950, A951, fk2_952, rfl, rfl, hW953, hF954, e955, p956, -⟩ := hq
        have hF958 := Fr_tr hF0 hF954 (Fr_sub (by decide)) (Fr_sub (by decide))
        have hP959 := Pf_f hP0 hF954 (by decide)
        have hS960 := Fx_f hS0 hF954 (by decide)
        have hV961 := Fx_f hV0 hF954 (by decide)
        have ec962 : ecn A951 (G950 31) = ec := (ecn_f (hF954.2 15 rfl) (hF954.1 31 rfl)).trans e_ec
        have bfk2_952 : (0 : Int) ≤ fk2_952 ∧ fk2_952 ≤ 6 := e955 ▸ hW953.1 16
        refine .inl ⟨rfl, ?_⟩
        refine jx_ar (pc' := 269) (st' := [.int (i32 (0))]) rfl rfl rfl rfl ?_
        refine jx_rt (v := some (.int (i32 (0)))) rfl rfl rfl rfl rfl rfl ?_
        exact ⟨_, _, _, ln, at0, fk2_952, nd, sy, na, vi, A 3 (ln).toNat, ec, rfl, rfl, hW953, hF958, hP959, hS960, hV961, by omega, ((hF954.1 9 rfl).trans (e_ln)), ((hF954.1 10 rfl).trans (e_at0)), (e955), ((hF954.1 31 rfl).trans (e_nd)), ((hF954.1 19 rfl).trans (e_sy)), ((hF954.1 28 rfl).trans (e_na)), ((hF954.1 29 rfl).trans (e_vi)), (congrFun (hF954.2 3 rfl) _), ec962, by omega, by omega, by omega, by omega, by omega, by omega, by omega, by omega, by omega, by omega, by first | exact Or.inl (⟨by omega, by omega⟩)⟩
    · have _q := h5
      refine jx_ld (pc' := 24) (l' := L1) (st' := [.ref 66]) rfl (jl_aloadn gL1_0) ?_
      refine jx_ar (pc' := 25) (st' := [.int (i32 (1)), .ref 66]) rfl rfl rfl rfl ?_
      refine jx_ld (pc' := 26) (l' := L1) (st' := [.ref 66, .int (i32 (1)), .ref 66]) rfl (jl_aloadn gL1_0) ?_
      have b963 : (-3000 : Int) ≤ G 12 ∧ G 12 ≤ 3002 := hW.1 12
      refine jr_get (pc' := 29) (i := 12) (v := .int (i32 (G 12))) rfl rfl (by decide) rfl rfl ?_
      refine jx_vr (pc' := 32) (as := [.int (i32 (1)), .int (i32 (G 12))]) (st := []) rfl rfl rfl rfl ⟨rfl, rfl, Nat.le_of_ble_eq_true rfl⟩ rfl rfl (c_fail (dd := d) (hd := by omega) (hW := hW) (kind := 1) (place := G 12) (fk := fk) (e_fk := show G 16 = fk from (e_fk))  (h_kind := ⟨(by decide), (by decide)⟩) (h_place := ⟨(Int.le_trans (by decide : (-2147483648 : Int) ≤ -3000) b963.1), (Int.le_trans b963.2 (by decide : (3002 : Int) ≤ 2147483647))⟩)  (p_0 := by omega) (p_1 := by omega)) (fun o V' hq => ?_)
      obtain ⟨G964, A965, fk2_966, rfl, rfl, hW967, hF968, e969, p970, -⟩ := hq
      have hF972 := Fr_tr hF0 hF968 (Fr_sub (by decide)) (Fr_sub (by decide))
      have hP973 := Pf_f hP0 hF968 (by decide)
      have hS974 := Fx_f hS0 hF968 (by decide)
      have hV975 := Fx_f hV0 hF968 (by decide)
      have ec976 : ecn A965 (G964 31) = ec := (ecn_f (hF968.2 15 rfl) (hF968.1 31 rfl)).trans e_ec
      have bfk2_966 : (0 : Int) ≤ fk2_966 ∧ fk2_966 ≤ 6 := e969 ▸ hW967.1 16
      refine .inl ⟨rfl, ?_⟩
      refine jx_ar (pc' := 33) (st' := [.int (i32 (0))]) rfl rfl rfl rfl ?_
      refine jx_rt (v := some (.int (i32 (0)))) rfl rfl rfl rfl rfl rfl ?_
      exact ⟨_, _, _, ln, at0, fk2_966, nd, sy, na, vi, A 3 (ln).toNat, ec, rfl, rfl, hW967, hF972, hP973, hS974, hV975, by omega, ((hF968.1 9 rfl).trans (e_ln)), ((hF968.1 10 rfl).trans (e_at0)), (e969), ((hF968.1 31 rfl).trans (e_nd)), ((hF968.1 19 rfl).trans (e_sy)), ((hF968.1 28 rfl).trans (e_na)), ((hF968.1 29 rfl).trans (e_vi)), (congrFun (hF968.2 3 rfl) _), ec976, by omega, by omega, by omega, by omega, by omega, by omega, by omega, by omega, by omega, by omega, by first | exact Or.inl (⟨by omega, by omega⟩)⟩
  · have _q := h3
    refine jx_ld (pc' := 11) (l' := L1) (st' := [.ref 66]) rfl (jl_aloadn gL1_0) ?_
    refine jx_vr (pc' := 14) (as := []) (st := []) rfl rfl rfl rfl ⟨rfl, rfl, Nat.le_of_ble_eq_true rfl⟩ rfl rfl (c_readNamed_w (dd := d) (hd := by omega) (hW := hW)  (ln := ln) (e_ln := show G 9 = ln from (e_ln)) (le := le) (e_le := show A 4 (ln).toNat = le from (e_le)) (at0 := at0) (e_at0 := show G 10 = at0 from (e_at0)) (fk := fk) (e_fk := show G 16 = fk from (e_fk)) (op0 := op0) (e_op0 := show G 15 = op0 from (e_op0)) (nd := nd) (e_nd := show G 31 = nd from (e_nd)) (tk0 := tk0) (e_tk0 := show G 11 = tk0 from (e_tk0)) (li := li) (e_li := show G 3 = li from (e_li)) (ec := ec) (e_ec := show ecn A (G 31) = ec from e_ec) (i_SV := (SV_fx i_SV e_vi (show G 29 = vi from (e_vi)) (by omega) hV0)) (i_PQ := (PQ_fx i_PQ hS0 (by omega) (hF0.2 29 rfl) (hF0.2 30 rfl)))   (p_0 := by omega) (p_1 := by omega) (p_2 := by omega) (p_3 := by omega) (p_4 := by omega) (p_5 := by omega)) (fun o V' hq => ?_)
    obtain ⟨G977, A978, r979, at2_980, fk2_981, nd2_982, ln2_983, ec2_984, rfl, rfl, hW985, hF986, hQ987, b988, e989, e990, e991, e992, e993, p994, p995, p996, p997, p998, q999⟩ := hq
    have hF1000 := Fr_tr hF0 hF986 (Fr_sub (by decide)) (Fr_sub (by decide))
    have hP1001 := Pf_tr hP0 hQ987 (by omega)
    have hS1002 := Fx_f hS0 hF986 (by decide)
    have hV1003 := Fx_f hV0 hF986 (by decide)
    have bat2_980 : (0 : Int) ≤ at2_980 ∧ at2_980 ≤ 3002 := e989 ▸ hW985.1 10
    have bfk2_981 : (0 : Int) ≤ fk2_981 ∧ fk2_981 ≤ 6 := e990 ▸ hW985.1 16
    have bnd2_982 : (0 : Int) ≤ nd2_982 ∧ nd2_982 ≤ 6999 := e991 ▸ hW985.1 31
    have bln2_983 : (0 : Int) ≤ ln2_983 ∧ ln2_983 ≤ 3000 := e992 ▸ hW985.1 9
    refine .inr ⟨_, rfl, ?_⟩
    rcases q999 with ⟨a1004, a1005, a1006⟩ | ⟨a1007, a1008, a1009, a1010, a1011, a1012, a1013, a1014, a1015⟩
    · have _q : True := trivial
      refine jx_rt (v := some (.int (i32 (r979)))) rfl rfl rfl rfl rfl rfl ?_
      exact ⟨_, _, _, ln2_983, at2_980, fk2_981, nd2_982, sy, na, vi, A 3 (ln2_983).toNat, ec2_984, rfl, rfl, hW985, hF1000, hP1001, hS1002, hV1003, by omega, (e992), (e989), (e990), (e991), ((hF986.1 19 rfl).trans (e_sy)), ((hF986.1 28 rfl).trans (e_na)), ((hF986.1 29 rfl).trans (e_vi)), (congrFun (hF986.2 3 rfl) _), e993, by omega, by omega, by omega, by omega, by omega, by omega, by omega, by omega, by omega, by omega, by first | exact Or.inl (⟨by omega, by omega⟩)⟩
    · have _q : True := trivial
      have b1016 : (0 : Int) ≤ A 3 (ln2_983).toNat ∧ A 3 (ln2_983).toNat ≤ 3000 := hW.2 3 _
      have lt1017 : ln2_983 < li → le < A 3 (ln2_983).toNat := fun hh => LT_nx (LT_ext ((hF986.1 3 rfl)) ((hF986.2 3 rfl)) ((hF986.2 4 rfl)) i_LT) (show G977 3 = li from ((hF986.1 3 rfl).trans (e_li))) (show A978 4 (ln).toNat = le from (congrFun (hF986.2 4 rfl) _).trans (e_le)) (show A978 3 (ln2_983).toNat = A 3 (ln2_983).toNat from (congrFun (hF986.2 3 rfl) _)) (show ln2_983 = ln + 1 by omega) (by omega) hh
      refine jx_rt (v := some (.int (i32 (r979)))) rfl rfl rfl rfl rfl rfl ?_
      exact ⟨_, _, _, ln2_983, at2_980, fk2_981, nd2_982, sy, na, vi, A 3 (ln2_983).toNat, ec2_984, rfl, rfl, hW985, hF1000, hP1001, hS1002, hV1003, by omega, (e992), (e989), (e990), (e991), ((hF986.1 19 rfl).trans (e_sy)), ((hF986.1 28 rfl).trans (e_na)), ((hF986.1 29 rfl).trans (e_vi)), (congrFun (hF986.2 3 rfl) _), e993, by omega, by omega, by omega, by omega, by omega, by omega, by omega, by omega, by omega, by omega, by first | exact Or.inr ((⟨by omega, by omega, by omega, by omega, by omega, by omega, by omega, (wS_leaf (wL_eq a1012 (by omega) (by omega)) (by omega) (by omega)), a1013, by omega, by omega⟩))⟩
