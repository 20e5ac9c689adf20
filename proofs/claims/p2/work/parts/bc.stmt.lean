set_option maxRecDepth 20000 in
set_option maxHeartbeats 4000000 in
theorem c_readAlt_w_at_24 {X : jX} {k : Nat} (hP : RPw X k) {d : Nat} {Vs : Nat → Prop} {sb pb : Int} (hvb : VB Vs sb) {c0 c1 : jC} {G : Nat → Int} {A : Nat → Nat → Int} {T : jH} {lv : Int} {ln li at0 fk nd sy na vi le op0 tk0 ec : Int} (hd : 8 * k + 82 ≤ d + 1) (hW : Wk G A) (e_ln : G 9 = ln) (e_li : G 3 = li) (e_at0 : G 10 = at0) (e_fk : G 16 = fk) (e_nd : G 31 = nd) (e_sy : G 19 = sy) (e_na : G 28 = na) (e_vi : G 29 = vi) (e_le : A 4 (ln).toNat = le) (e_op0 : G 15 = op0) (e_tk0 : G 11 = tk0) (e_ec : ecn A (G 31) = ec) (i_LT : LT G A) (i_SV : SV Vs sb G A) (i_PQ : PQ Vs sb pb G A) (h_lv : (-2147483648 : Int) ≤ lv ∧ lv ≤ 2147483647) (p_0 : 0 ≤ lv ∧ lv ≤ 15) (p_1 : 18 - lv ≤ ((k + 1 : Nat) : Int)) (p_2 : fk = 0) (p_3 : ln < li) (p_4 : at0 ≤ le) (p_5 : op0 = 0) (p_6 : nd ≤ 2 * at0 - tz tk0 + 30) (p_7 : sy ≤ na + 2) (p_8 : vi ≤ sy) (p_9 : sb = sy) (p_10 : 1 ≤ tk0) : ∀ (m : Nat) (L : jL) (Gx : Nat → Int) (Ax : Nat → Nat → Int) (n last many ln1 at1 fk1 nd1 sy1 na1 vi1 lf1 ec1 : Int), (li - ln1).toNat = m → jGet L 0 = some (.ref 66) → jGet L 1 = some (.int (i32 (lv))) → jGet L 2 = some (.int (i32 n)) → jGet L 3 = some (.int (i32 last)) → jGet L 4 = some (.int (i32 many)) → Wk Gx Ax → Fr [9, 10, 11, 12, 13, 14, 15, 16, 17, 18, 19, 28, 29, 31] [6, 7, 8, 9, 10, 11, 12, 14, 15, 16, 17, 18, 19, 20, 21, 22, 23, 24, 28] G A Gx Ax → Pf nd A Ax → Fx sr (sy) A Ax → Fx [14] (vi) A Ax → Gx 9 = ln1 → Gx 10 = at1 → Gx 16 = fk1 → Gx 31 = nd1 → Gx 19 = sy1 → Gx 28 = na1 → Gx 29 = vi1 → Ax 3 (ln1).toNat = lf1 → ecn Ax (Gx 31) = ec1 → ((-2147483648 : Int) ≤ n ∧ n ≤ 2147483647) → ((-2147483648 : Int) ≤ last ∧ last ≤ 2147483647) → ((-2147483648 : Int) ≤ many ∧ many ≤ 2147483647) → (fk1 = 0) → (at0 ≤ at1) → (nd ≤ n ∧ n ≤ 6998 ∧ n < nd1) → (sy ≤ sy1) → (sy1 ≤ na1 + 2) → (vi1 = vi) → (ln < ln1) → (ln1 ≤ li) → (nd1 - nd ≤ 2 * at1 - (2 * at0 - tz tk0)) → (at1 < lf1 ∨ li ≤ ln1) → (n = nd) → (0 ≤ last ∧ last ≤ 6998) → (last = 0 ∨ n < last) → (last < nd1) → (0 ≤ many ∧ many ≤ 8) → (ND Ax (n) (32) (0) (0) (0) (0) (Ax 21 (n).toNat) (0)) → (CL 2 Ax (sy1) pb (k) (Vs) (n) (last) (many) (n + 1) (nd1) (sy) (sy1)) → (nd1 - nd + 5 * (ec1 - ec) ≤ 2 * at1 - (2 * at0 - tz tk0)) → wj X d jm302 (24, L, [], rV c0 c1 Gx Ax T) (fun o V' => ∃ (G' : Nat → Int) (A' : Nat → Nat → Int) (r : Int) (ln2 : Int) (at2 : Int) (fk2 : Int) (nd2 : Int) (sy2 : Int) (na2 : Int) (vi2 : Int) (lf2 : Int) (ec2 : Int), V' = rV c0 c1 G' A' T ∧ o = .inl (some (.int (i32 r))) ∧ Wk G' A' ∧ Fr [9, 10, 11, 12, 13, 14, 15, 16, 17, 18, 19, 28, 29, 31] [6, 7, 8, 9, 10, 11, 12, 14, 15, 16, 17, 18, 19, 20, 21, 22, 23, 24, 28] G A G' A' ∧ Pf nd A A' ∧ Fx sr (sy) A A' ∧ Fx [14] (vi) A A' ∧ ((-2147483648 : Int) ≤ r ∧ r ≤ 2147483647) ∧ G' 9 = ln2 ∧ G' 10 = at2 ∧ G' 16 = fk2 ∧ G' 31 = nd2 ∧ G' 19 = sy2 ∧ G' 28 = na2 ∧ G' 29 = vi2 ∧ A' 3 (ln2).toNat = lf2 ∧ ecn A' (G' 31) = ec2 ∧ (at0 ≤ at2) ∧ (nd ≤ nd2) ∧ (sy ≤ sy2) ∧ (sy2 ≤ na2 + 2) ∧ (vi ≤ vi2) ∧ (vi2 ≤ vi + 1) ∧ (0 ≤ r) ∧ (r ≤ 6999) ∧ (ln ≤ ln2) ∧ (ln2 ≤ li) ∧ (((1 ≤ fk2) ∧ (nd2 - nd ≤ 2 * at2 - (2 * at0 - tz tk0) + 14)) ∨ ((fk2 = 0) ∧ (vi2 = vi) ∧ (ln < ln2) ∧ (nd2 - nd ≤ 2 * at2 - (2 * at0 - tz tk0)) ∧ (at2 < lf2 ∨ li ≤ ln2) ∧ (nd ≤ r) ∧ (r < nd2) ∧ (wSt A' (sy2) pb (wP A' (sy2) pb (k)) (Vs) (r) (nd) (nd2) (sy) (sy2)) ∧ (NX A' (r)) ∧ (nd2 - nd + 5 * (ec2 - ec) ≤ 2 * at2 - (2 * at0 - tz tk0))))) := by
  have hF0 : Fr [9, 10, 11, 12, 13, 14, 15, 16, 17, 18, 19, 28, 29, 31] [6, 7, 8, 9, 10, 11, 12, 14, 15, 16, 17, 18, 19, 20, 21, 22, 23, 24, 28] G A G A := Fr_rf
  have hP0 : Pf nd A A := Pf_rf
  have hS0 : Fx sr (sy) A A := Fx_rf
  have hV0 : Fx [14] (vi) A A := Fx_rf
  have b_ln : (0 : Int) ≤ ln ∧ ln ≤ 3000 := e_ln ▸ hW.1 9
  have b_li : (0 : Int) ≤ li ∧ li ≤ 3000 := e_li ▸ hW.1 3
  have b_at0 : (0 : Int) ≤ at0 ∧ at0 ≤ 3002 := e_at0 ▸ hW.1 10
  have b_fk : (0 : Int) ≤ fk ∧ fk ≤ 6 := e_fk ▸ hW.1 16
  have b_nd : (0 : Int) ≤ nd ∧ nd ≤ 6999 := e_nd ▸ hW.1 31
  have b_sy : (0 : Int) ≤ sy ∧ sy ≤ 202 := e_sy ▸ hW.1 19
  have b_na : (0 : Int) ≤ na ∧ na ≤ 200 := e_na ▸ hW.1 28
  have b_vi : (0 : Int) ≤ vi ∧ vi ≤ 202 := e_vi ▸ hW.1 29
  have b_le : (0 : Int) ≤ le ∧ le ≤ 3000 := e_le ▸ hW.2 4 _
  have b_op0 : (-2147483648 : Int) ≤ op0 ∧ op0 ≤ 2147483647 := e_op0 ▸ hW.1 15
  have z_tk0 := tz_f tk0
  have b_tk0 : (0 : Int) ≤ tk0 ∧ tk0 ≤ 5 := e_tk0 ▸ hW.1 11
  intro m
  induction m using Nat.strongRecOn with
  | ind m ih24 =>
    intro L Gx Ax n last many ln1 at1 fk1 nd1 sy1 na1 vi1 lf1 ec1 hm gL_0 gL_1 gL_2 gL_3 gL_4 hWx hFx hPx hSx hVx ex_ln1 ex_at1 ex_fk1 ex_nd1 ex_sy1 ex_na1 ex_vi1 ex_lf1 ex_ec1 rx_n rx_last rx_many iv_0 iv_1 iv_2 iv_3 iv_4 iv_5 iv_6 iv_7 iv_8 iv_9 iv_10 iv_11 iv_12 iv_13 iv_14 iv_15 iv_16 iv_17
    have b_ln1 : (0 : Int) ≤ ln1 ∧ ln1 ≤ 3000 := ex_ln1 ▸ hWx.1 9
    have b_at1 : (0 : Int) ≤ at1 ∧ at1 ≤ 3002 := ex_at1 ▸ hWx.1 10
    have b_fk1 : (0 : Int) ≤ fk1 ∧ fk1 ≤ 6 := ex_fk1 ▸ hWx.1 16
    have b_nd1 : (0 : Int) ≤ nd1 ∧ nd1 ≤ 6999 := ex_nd1 ▸ hWx.1 31
    have b_sy1 : (0 : Int) ≤ sy1 ∧ sy1 ≤ 202 := ex_sy1 ▸ hWx.1 19
    have b_na1 : (0 : Int) ≤ na1 ∧ na1 ≤ 200 := ex_na1 ▸ hWx.1 28
    have b_vi1 : (0 : Int) ≤ vi1 ∧ vi1 ≤ 202 := ex_vi1 ▸ hWx.1 29
    refine jx_ld (pc' := 25) (l' := L) (st' := [.ref 66]) rfl (jl_aloadn gL_0) ?_
    refine jx_ld (pc' := 26) (l' := L) (st' := [.int (i32 (lv)), .ref 66]) rfl (jl_iloadn gL_1) ?_
    have b1 : (-1 : Int) ≤ A 5 (ln1).toNat ∧ A 5 (ln1).toNat ≤ 15 := hW.2 5 _
    refine jx_vr (pc' := 29) (as := [.int (i32 (lv))]) (st := []) rfl rfl rfl rfl ⟨rfl, rfl, Nat.le_of_ble_eq_true rfl⟩ rfl rfl (c_isBelow (dd := d) (hd := by omega) (hW := hWx) (lv := lv) (ln := ln1) (e_ln := show Gx 9 = ln1 from (ex_ln1)) (li := li) (e_li := show Gx 3 = li from ((hFx.1 3 rfl).trans (e_li))) (fk := fk1) (e_fk := show Gx 16 = fk1 from (ex_fk1)) (ll := A 5 (ln1).toNat) (e_ll := show Ax 5 (ln1).toNat = A 5 (ln1).toNat from (congrFun (hFx.2 5 rfl) _))  (h_lv := ⟨(Int.le_trans (by decide : (-2147483648 : Int) ≤ -2147483648) h_lv.1), (Int.le_trans h_lv.2 (by decide : (2147483647 : Int) ≤ 2147483647))⟩)  (p_0 := by omega)) (fun o V' hq => ?_)
    obtain ⟨G2, A3, r4, fk2_5, rfl, rfl, hW6, hF7, b8, e9, q10⟩ := hq
    have hF11 := Fr_tr hFx hF7 (Fr_sub (by decide)) (Fr_sub (by decide))
    have hP12 := Pf_f hPx hF7 (by decide)
    have hS13 := Fx_f hSx hF7 (by decide)
    have hV14 := Fx_f hVx hF7 (by decide)
    have sf15 : ND A3 (n) (32) (0) (0) (0) (0) (Ax 21 (n).toNat) (0) := ND_ag (by omega) (Ag_fr hF7 (by decide)) iv_15
    have sf16 : CL 2 A3 (sy1) pb (k) (Vs) (n) (last) (many) (n + 1) (nd1) (sy) (sy1) := CL_ag (by omega) (by omega) (Sg_fr hF7 (by decide)) (Qg_fr hF7 (by decide)) (Ag_fr hF7 (by decide)) (congrFun (hF7.2 21 rfl) _) iv_16
    have ec17 : ecn A3 (G2 31) = ec1 := (ecn_f (hF7.2 15 rfl) (hF7.1 31 rfl)).trans ex_ec1
    have bfk2_5 : (0 : Int) ≤ fk2_5 ∧ fk2_5 ≤ 6 := e9 ▸ hW6.1 16
    refine .inr ⟨_, rfl, ?_⟩
    rcases q10 with ⟨rfl, a18, a19, a20, a21⟩ | ⟨rfl, a22⟩ | ⟨rfl, a23, a24, a25⟩
    · have _q : True := trivial
      have b26 : (0 : Int) ≤ A 4 (ln1).toNat ∧ A 4 (ln1).toNat ≤ 3000 := hW.2 4 _
      have lt27 : lf1 < A 4 (ln1).toNat := LT_at (LT_ext (((hF7.1 3 rfl).trans (hFx.1 3 rfl))) (((hF7.2 3 rfl).trans (hFx.2 3 rfl))) (((hF7.2 4 rfl).trans (hFx.2 4 rfl))) i_LT) (show G2 3 = li from ((hF7.1 3 rfl).trans ((hFx.1 3 rfl).trans (e_li)))) (show A3 3 (ln1).toNat = lf1 from (congrFun (hF7.2 3 rfl) _).trans (ex_lf1)) (show A3 4 (ln1).toNat = A 4 (ln1).toNat from (congrFun ((hF7.2 4 rfl).trans (hFx.2 4 rfl)) _)) (by omega) (by omega)
      refine jx_if_eq (pc' := 32) (tg := 130) rfl rfl rfl (by decide) (by decide) (fun h28 => ?_) (fun h28 => ?_)
      · have _q := h28
        exact absurd h28 (by omega)
      · have _q := h28
        refine jx_ld (pc' := 34) (l' := L) (st' := [.int (i32 (many))]) rfl (jl_iload gL_4) ?_
        refine jx_ar (pc' := 36) (st' := [.int (i32 (8)), .int (i32 (many))]) rfl rfl rfl rfl ?_
        refine jx_icmp_ne (pc' := 39) (tg := 65) rfl rfl rfl (Int.le_trans (by decide : (-2147483648 : Int) ≤ -2147483648) rx_many.1) (Int.le_trans rx_many.2 (by decide : (2147483647 : Int) ≤ 2147483647)) (by decide) (by decide) (fun h29 => ?_) (fun h29 => ?_)
        · have _q := h29
          refine jx_ld (pc' := 66) (l' := L) (st' := [.ref 66]) rfl (jl_aloadn gL_0) ?_
          refine jx_vr (pc' := 69) (as := []) (st := []) rfl rfl rfl rfl ⟨rfl, rfl, Nat.le_of_ble_eq_true rfl⟩ rfl rfl (c_openLine (dd := d) (hd := by omega) (hW := hW6)  (ln := ln1) (e_ln := show G2 9 = ln1 from ((hF7.1 9 rfl).trans (ex_ln1))) (le := A 4 (ln1).toNat) (e_le := show A3 4 (ln1).toNat = A 4 (ln1).toNat from (congrFun ((hF7.2 4 rfl).trans (hFx.2 4 rfl)) _)) (lf := lf1) (e_lf := show A3 3 (ln1).toNat = lf1 from (congrFun (hF7.2 3 rfl) _).trans (ex_lf1))    (p_0 := by omega)) (fun o V' hq => ?_)
          obtain ⟨G30, A31, at2_32, tk2_33, op2_34, rfl, rfl, hW35, hF36, e37, e38, e39, p40, p41, p42, p43, -⟩ := hq
          have hF45 := Fr_tr hF11 hF36 (Fr_sub (by decide)) (Fr_sub (by decide))
          have hP46 := Pf_f hP12 hF36 (by decide)
          have hS47 := Fx_f hS13 hF36 (by decide)
          have hV48 := Fx_f hV14 hF36 (by decide)
          have sf49 : ND A31 (n) (32) (0) (0) (0) (0) (Ax 21 (n).toNat) (0) := ND_ag (by omega) (Ag_fr hF36 (by decide)) sf15
          have sf50 : CL 2 A31 (sy1) pb (k) (Vs) (n) (last) (many) (n + 1) (nd1) (sy) (sy1) := CL_ag (by omega) (by omega) (Sg_fr hF36 (by decide)) (Qg_fr hF36 (by decide)) (Ag_fr hF36 (by decide)) (congrFun (hF36.2 21 rfl) _) sf16
          have ec51 : ecn A31 (G30 31) = ec1 := (ecn_f (hF36.2 15 rfl) (hF36.1 31 rfl)).trans ec17
          have bat2_32 : (0 : Int) ≤ at2_32 ∧ at2_32 ≤ 3002 := e37 ▸ hW35.1 10
          have ztk2_33 := tz_b tk2_33
          have btk2_33 : (0 : Int) ≤ tk2_33 ∧ tk2_33 ≤ 5 := e38 ▸ hW35.1 11
          have bop2_34 : (-2147483648 : Int) ≤ op2_34 ∧ op2_34 ≤ 2147483647 := e39 ▸ hW35.1 15
          refine .inl ⟨rfl, ?_⟩
          have pz52 : lf1 + tz tk2_33 ≤ at2_32 := by omega
          refine jx_ld (pc' := 70) (l' := L) (st' := [.ref 66]) rfl (jl_aloadn gL_0) ?_
          refine jx_vr (pc' := 73) (as := []) (st := []) rfl rfl rfl rfl ⟨rfl, rfl, Nat.le_of_ble_eq_true rfl⟩ rfl rfl (c_readGuard_w (dd := d) (hd := by omega) (hW := hW35)  (ln := ln1) (e_ln := show G30 9 = ln1 from ((hF36.1 9 rfl).trans ((hF7.1 9 rfl).trans (ex_ln1)))) (le := A 4 (ln1).toNat) (e_le := show A31 4 (ln1).toNat = A 4 (ln1).toNat from (congrFun ((hF36.2 4 rfl).trans ((hF7.2 4 rfl).trans (hFx.2 4 rfl))) _)) (at0 := at2_32) (e_at0 := show G30 10 = at2_32 from (e37)) (fk := fk2_5) (e_fk := show G30 16 = fk2_5 from ((hF36.1 16 rfl).trans (e9))) (op0 := op2_34) (e_op0 := show G30 15 = op2_34 from (e39)) (nd := nd1) (e_nd := show G30 31 = nd1 from ((hF36.1 31 rfl).trans ((hF7.1 31 rfl).trans (ex_nd1)))) (tk0 := tk2_33) (e_tk0 := show G30 11 = tk2_33 from (e38)) (li := li) (e_li := show G30 3 = li from ((hF36.1 3 rfl).trans ((hF7.1 3 rfl).trans ((hFx.1 3 rfl).trans (e_li))))) (ec := ec1) (e_ec := show ecn A31 (G30 31) = ec1 from ec51) (i_SV := (SV_fx i_SV e_vi (show G30 29 = vi1 from ((hF36.1 29 rfl).trans ((hF7.1 29 rfl).trans (ex_vi1)))) (by omega) hV48))   (p_0 := by omega) (p_1 := by omega) (p_2 := by omega) (p_3 := by omega) (p_4 := by omega)) (fun o V' hq => ?_)
          obtain ⟨G53, A54, r55, at2_56, fk2_57, nd2_58, ln2_59, ec2_60, rfl, rfl, hW61, hF62, hQ63, b64, e65, e66, e67, e68, e69, p70, p71, p72, p73, p74, q75⟩ := hq
          have hF76 := Fr_tr hF45 hF62 (Fr_sub (by decide)) (Fr_sub (by decide))
          have hP77 := Pf_tr hP46 hQ63 (by omega)
          have hS78 := Fx_f hS47 hF62 (by decide)
          have hV79 := Fx_f hV48 hF62 (by decide)
          have sf80 : ND A54 (n) (32) (0) (0) (0) (0) (Ax 21 (n).toNat) (0) := ND_ag (by omega) (Ag_pf hQ63 (by omega)) sf49
          have sf81 : CL 2 A54 (sy1) pb (k) (Vs) (n) (last) (many) (n + 1) (nd1) (sy) (sy1) := CL_ag (by omega) (by omega) (Sg_fr hF62 (by decide)) (Qg_fr hF62 (by decide)) (Ag_pf hQ63 (by omega)) (hQ63 21 _ rfl (by omega)) sf50
          have bat2_56 : (0 : Int) ≤ at2_56 ∧ at2_56 ≤ 3002 := e65 ▸ hW61.1 10
          have bfk2_57 : (0 : Int) ≤ fk2_57 ∧ fk2_57 ≤ 6 := e66 ▸ hW61.1 16
          have bnd2_58 : (0 : Int) ≤ nd2_58 ∧ nd2_58 ≤ 6999 := e67 ▸ hW61.1 31
          have bln2_59 : (0 : Int) ≤ ln2_59 ∧ ln2_59 ≤ 3000 := e68 ▸ hW61.1 9
          refine .inr ⟨_, rfl, ?_⟩
          rcases q75 with ⟨a82, a83, a84⟩ | ⟨a85, a86, a87, a88, a89, a90, a91, a92⟩
          · have _q : True := trivial
            refine jx_ld (pc' := 75) (l' := jSto1 L 5 (.int (i32 (r55)))) (st' := []) rfl rfl ?_
            obtain ⟨L93, eL93⟩ : ∃ q, q = jSto1 L 5 (.int (i32 (r55))) := ⟨_, rfl⟩
            rw [← eL93]
            have gL93_0 : jGet L93 0 = some (.ref 66) := eL93 ▸ jg_ne (by decide) gL_0 rfl
            have gL93_1 : jGet L93 1 = some (.int (i32 (lv))) := eL93 ▸ jg_ne (by decide) gL_1 rfl
            have gL93_2 : jGet L93 2 = some (.int (i32 (n))) := eL93 ▸ jg_ne (by decide) gL_2 rfl
            have gL93_3 : jGet L93 3 = some (.int (i32 (last))) := eL93 ▸ jg_ne (by decide) gL_3 rfl
            have gL93_4 : jGet L93 4 = some (.int (i32 (many))) := eL93 ▸ jg_ne (by decide) gL_4 rfl
            have gL93_5 : jGet L93 5 = some (.int (i32 (r55))) := eL93 ▸ jg_eq
            refine jx_ld (pc' := 76) (l' := L93) (st' := [.ref 66]) rfl (jl_aloadn gL93_0) ?_
            refine jx_vr (pc' := 79) (as := []) (st := []) rfl rfl rfl rfl ⟨rfl, rfl, Nat.le_of_ble_eq_true rfl⟩ rfl rfl (c_bad (dd := d) (hd := by omega) (hW := hW61)  (fk := fk2_57) (e_fk := show G53 16 = fk2_57 from (e66))    ) (fun o V' hq => ?_)
            obtain ⟨r94, rfl, rfl, b95, q96⟩ := hq
            refine .inr ⟨_, rfl, ?_⟩
            rcases q96 with ⟨rfl, a97⟩ | ⟨rfl, a98⟩
            · have _q : True := trivial
              refine jx_if_eq (pc' := 82) (tg := 86) rfl rfl rfl (by decide) (by decide) (fun h99 => ?_) (fun h99 => ?_)
              · have _q := h99
                exact absurd h99 (by omega)
              · have _q := h99
                refine jx_ar (pc' := 83) (st' := [.int (i32 (0))]) rfl rfl rfl rfl ?_
                refine jx_go (tg := 93) rfl rfl ?_
                refine jx_ld (pc' := 95) (l' := jSto1 L93 6 (.int (i32 (0)))) (st' := []) rfl rfl ?_
                obtain ⟨L100, eL100⟩ : ∃ q, q = jSto1 L93 6 (.int (i32 (0))) := ⟨_, rfl⟩
                rw [← eL100]
                have gL100_0 : jGet L100 0 = some (.ref 66) := eL100 ▸ jg_ne (by decide) gL93_0 rfl
                have gL100_1 : jGet L100 1 = some (.int (i32 (lv))) := eL100 ▸ jg_ne (by decide) gL93_1 rfl
                have gL100_2 : jGet L100 2 = some (.int (i32 (n))) := eL100 ▸ jg_ne (by decide) gL93_2 rfl
                have gL100_3 : jGet L100 3 = some (.int (i32 (last))) := eL100 ▸ jg_ne (by decide) gL93_3 rfl
                have gL100_4 : jGet L100 4 = some (.int (i32 (many))) := eL100 ▸ jg_ne (by decide) gL93_4 rfl
                have gL100_5 : jGet L100 5 = some (.int (i32 (r55))) := eL100 ▸ jg_ne (by decide) gL93_5 rfl
                have gL100_6 : jGet L100 6 = some (.int (i32 (0))) := eL100 ▸ jg_eq
                refine jx_ld (pc' := 96) (l' := L100) (st' := [.ref 66]) rfl (jl_aloadn gL100_0) ?_
                refine jx_vr (pc' := 99) (as := []) (st := []) rfl rfl rfl rfl ⟨rfl, rfl, Nat.le_of_ble_eq_true rfl⟩ rfl rfl (c_bad (dd := d) (hd := by omega) (hW := hW61)  (fk := fk2_57) (e_fk := show G53 16 = fk2_57 from (e66))    ) (fun o V' hq => ?_)
                obtain ⟨r101, rfl, rfl, b102, q103⟩ := hq
                refine .inr ⟨_, rfl, ?_⟩
                rcases q103 with ⟨rfl, a104⟩ | ⟨rfl, a105⟩
                · have _q : True := trivial
                  refine jx_if_eq (pc' := 102) (tg := 104) rfl rfl rfl (by decide) (by decide) (fun h106 => ?_) (fun h106 => ?_)
                  · have _q := h106
                    exact absurd h106 (by omega)
                  · have _q := h106
                    refine jx_ar (pc' := 103) (st' := [.int (i32 (0))]) rfl rfl rfl rfl ?_
                    refine jx_rt (v := some (.int (i32 (0)))) rfl rfl rfl rfl rfl rfl ?_
                    exact ⟨_, _, _, ln2_59, at2_56, fk2_57, nd2_58, sy1, na1, vi1, A 3 (ln2_59).toNat, ec2_60, rfl, rfl, hW61, hF76, hP77, hS78, hV79, by omega, (e68), (e65), (e66), (e67), ((hF62.1 19 rfl).trans ((hF36.1 19 rfl).trans ((hF7.1 19 rfl).trans (ex_sy1)))), ((hF62.1 28 rfl).trans ((hF36.1 28 rfl).trans ((hF7.1 28 rfl).trans (ex_na1)))), ((hF62.1 29 rfl).trans ((hF36.1 29 rfl).trans ((hF7.1 29 rfl).trans (ex_vi1)))), (congrFun ((hF62.2 3 rfl).trans ((hF36.2 3 rfl).trans ((hF7.2 3 rfl).trans (hFx.2 3 rfl)))) _), e69, by omega, by omega, by omega, by omega, by omega, by omega, by omega, by omega, by omega, by omega, by first | exact Or.inl (⟨by omega, by omega⟩)⟩
                · have _q : True := trivial
                  exfalso
                  omega
            · have _q : True := trivial
              exfalso
              omega
          · have _q : True := trivial
            have b107 : (0 : Int) ≤ A 3 (ln2_59).toNat ∧ A 3 (ln2_59).toNat ≤ 3000 := hW.2 3 _
            have lt108 : ln2_59 < li → A 4 (ln1).toNat < A 3 (ln2_59).toNat := fun hh => LT_nx (LT_ext (((hF62.1 3 rfl).trans ((hF36.1 3 rfl).trans ((hF7.1 3 rfl).trans (hFx.1 3 rfl))))) (((hF62.2 3 rfl).trans ((hF36.2 3 rfl).trans ((hF7.2 3 rfl).trans (hFx.2 3 rfl))))) (((hF62.2 4 rfl).trans ((hF36.2 4 rfl).trans ((hF7.2 4 rfl).trans (hFx.2 4 rfl))))) i_LT) (show G53 3 = li from ((hF62.1 3 rfl).trans ((hF36.1 3 rfl).trans ((hF7.1 3 rfl).trans ((hFx.1 3 rfl).trans (e_li)))))) (show A54 4 (ln1).toNat = A 4 (ln1).toNat from (congrFun ((hF62.2 4 rfl).trans ((hF36.2 4 rfl).trans ((hF7.2 4 rfl).trans (hFx.2 4 rfl)))) _)) (show A54 3 (ln2_59).toNat = A 3 (ln2_59).toNat from (congrFun ((hF62.2 3 rfl).trans ((hF36.2 3 rfl).trans ((hF7.2 3 rfl).trans (hFx.2 3 rfl)))) _)) (show ln2_59 = ln1 + 1 by omega) (by omega) hh
            refine jx_ld (pc' := 75) (l' := jSto1 L 5 (.int (i32 (r55)))) (st' := []) rfl rfl ?_
            obtain ⟨L109, eL109⟩ : ∃ q, q = jSto1 L 5 (.int (i32 (r55))) := ⟨_, rfl⟩
            rw [← eL109]
            have gL109_0 : jGet L109 0 = some (.ref 66) := eL109 ▸ jg_ne (by decide) gL_0 rfl
            have gL109_1 : jGet L109 1 = some (.int (i32 (lv))) := eL109 ▸ jg_ne (by decide) gL_1 rfl
            have gL109_2 : jGet L109 2 = some (.int (i32 (n))) := eL109 ▸ jg_ne (by decide) gL_2 rfl
            have gL109_3 : jGet L109 3 = some (.int (i32 (last))) := eL109 ▸ jg_ne (by decide) gL_3 rfl
            have gL109_4 : jGet L109 4 = some (.int (i32 (many))) := eL109 ▸ jg_ne (by decide) gL_4 rfl
            have gL109_5 : jGet L109 5 = some (.int (i32 (r55))) := eL109 ▸ jg_eq
            refine jx_ld (pc' := 76) (l' := L109) (st' := [.ref 66]) rfl (jl_aloadn gL109_0) ?_
            refine jx_vr (pc' := 79) (as := []) (st := []) rfl rfl rfl rfl ⟨rfl, rfl, Nat.le_of_ble_eq_true rfl⟩ rfl rfl (c_bad (dd := d) (hd := by omega) (hW := hW61)  (fk := fk2_57) (e_fk := show G53 16 = fk2_57 from (e66))    ) (fun o V' hq => ?_)
            obtain ⟨r110, rfl, rfl, b111, q112⟩ := hq
            refine .inr ⟨_, rfl, ?_⟩
            rcases q112 with ⟨rfl, a113⟩ | ⟨rfl, a114⟩
            · have _q : True := trivial
              exfalso
              omega
            · have _q : True := trivial
              refine jx_if_eq (pc' := 82) (tg := 86) rfl rfl rfl (by decide) (by decide) (fun h115 => ?_) (fun h115 => ?_)
              · have _q := h115
                refine jx_ld (pc' := 87) (l' := L109) (st' := [.ref 66]) rfl (jl_aloadn gL109_0) ?_
                refine jx_ld (pc' := 88) (l' := L109) (st' := [.int (i32 (lv)), .ref 66]) rfl (jl_iloadn gL109_1) ?_
                refine jx_ar (pc' := 89) (st' := [.int (i32 (2)), .int (i32 (lv)), .ref 66]) rfl rfl rfl rfl ?_
                refine jx_add (pc' := 90) rfl rfl ?_
                refine jx_vr (pc' := 93) (as := [.int (i32 ((lv + 2)))]) (st := []) rfl rfl rfl rfl ⟨rfl, rfl, Nat.le_of_ble_eq_true rfl⟩ rfl rfl (hP (dd := d) (hd := by omega) (hW := hW61) (lv := (lv + 2)) (at0 := at2_56) (ln := ln2_59) (e_ln := show G53 9 = ln2_59 from (e68)) (li := li) (e_li := show G53 3 = li from ((hF62.1 3 rfl).trans ((hF36.1 3 rfl).trans ((hF7.1 3 rfl).trans ((hFx.1 3 rfl).trans (e_li)))))) (fk := fk2_57) (e_fk := show G53 16 = fk2_57 from (e66)) (nd := nd2_58) (e_nd := show G53 31 = nd2_58 from (e67)) (sy := sy1) (e_sy := show G53 19 = sy1 from ((hF62.1 19 rfl).trans ((hF36.1 19 rfl).trans ((hF7.1 19 rfl).trans (ex_sy1))))) (na := na1) (e_na := show G53 28 = na1 from ((hF62.1 28 rfl).trans ((hF36.1 28 rfl).trans ((hF7.1 28 rfl).trans (ex_na1))))) (vi := vi1) (e_vi := show G53 29 = vi1 from ((hF62.1 29 rfl).trans ((hF36.1 29 rfl).trans ((hF7.1 29 rfl).trans (ex_vi1))))) (lf := A 3 (ln2_59).toNat) (e_lf := show A54 3 (ln2_59).toNat = A 3 (ln2_59).toNat from (congrFun ((hF62.2 3 rfl).trans ((hF36.2 3 rfl).trans ((hF7.2 3 rfl).trans (hFx.2 3 rfl)))) _)) (ac := at2_56) (e_ac := show G53 10 = at2_56 from (e65)) (ec := ec2_60) (e_ec := show ecn A54 (G53 31) = ec2_60 from e69) (i_LT := (LT_ext (((hF62.1 3 rfl).trans ((hF36.1 3 rfl).trans ((hF7.1 3 rfl).trans (hFx.1 3 rfl))))) (((hF62.2 3 rfl).trans ((hF36.2 3 rfl).trans ((hF7.2 3 rfl).trans (hFx.2 3 rfl))))) (((hF62.2 4 rfl).trans ((hF36.2 4 rfl).trans ((hF7.2 4 rfl).trans (hFx.2 4 rfl))))) i_LT)) (i_SV := (SV_fx i_SV e_vi (show G53 29 = vi1 from ((hF62.1 29 rfl).trans ((hF36.1 29 rfl).trans ((hF7.1 29 rfl).trans (ex_vi1))))) (by omega) hV79)) (i_PQ := (PQ_fx i_PQ hS78 (by omega) (hF76.2 29 rfl) (hF76.2 30 rfl))) (hvb := hvb) (h_lv := ⟨(by omega), (by omega)⟩)  (p_0 := by omega) (p_1 := by omega) (p_2 := by omega) (p_3 := by omega) (p_4 := by omega) (p_5 := by omega) (p_6 := by omega) (p_7 := by omega) (p_8 := by omega) (p_9 := by omega) (p_10 := by omega)) (fun o V' hq => ?_)
                obtain ⟨G116, A117, r118, ln2_119, at2_120, fk2_121, nd2_122, sy2_123, na2_124, vi2_125, lf2_126, ec2_127, rfl, rfl, hW128, hF129, hQ130, hQ131, hQ132, b133, e134, e135, e136, e137, e138, e139, e140, e141, e142, p143, p144, p145, p146, p147, p148, p149, p150, p151, q152⟩ := hq
                have hF153 := Fr_tr hF76 hF129 (Fr_sub (by decide)) (Fr_sub (by decide))
                have hP154 := Pf_tr hP77 hQ130 (by omega)
                have hS155 := Fx_tr hS78 hQ131 (by omega)
                have hV156 := Fx_tr hV79 hQ132 (by omega)
                have sf157 : ND A117 (n) (32) (0) (0) (0) (0) (Ax 21 (n).toNat) (0) := ND_ag (by omega) (Ag_pf hQ130 (by omega)) sf80
                have sf158 : CL 2 A117 (sy1) pb (k) (Vs) (n) (last) (many) (n + 1) (nd1) (sy) (sy1) := CL_ag (by omega) (by omega) (Fx_su hQ131 (by omega)) (Qg_fr hF129 (by decide)) (Ag_pf hQ130 (by omega)) (hQ130 21 _ rfl (by omega)) sf81
                have sf159 : wU A117 Vs sb (r55) (nd1) (nd2_58) := wU_ag (by omega) (Fx_su hQ131 (by omega)) (Ax_ag (Ag_pf hQ130 (by omega))) a90
                have sf160 : NX A117 (r55) := NX_ag (by omega) (Ag_pf hQ130 (by omega)) a91
                have bln2_119 : (0 : Int) ≤ ln2_119 ∧ ln2_119 ≤ 3000 := e134 ▸ hW128.1 9
                have bat2_120 : (0 : Int) ≤ at2_120 ∧ at2_120 ≤ 3002 := e135 ▸ hW128.1 10
                have bfk2_121 : (0 : Int) ≤ fk2_121 ∧ fk2_121 ≤ 6 := e136 ▸ hW128.1 16
                have bnd2_122 : (0 : Int) ≤ nd2_122 ∧ nd2_122 ≤ 6999 := e137 ▸ hW128.1 31
                have bsy2_123 : (0 : Int) ≤ sy2_123 ∧ sy2_123 ≤ 202 := e138 ▸ hW128.1 19
                have bna2_124 : (0 : Int) ≤ na2_124 ∧ na2_124 ≤ 200 := e139 ▸ hW128.1 28
                have bvi2_125 : (0 : Int) ≤ vi2_125 ∧ vi2_125 ≤ 202 := e140 ▸ hW128.1 29
                have blf2_126 : (0 : Int) ≤ lf2_126 ∧ lf2_126 ≤ 3000 := e141 ▸ hW128.2 3 _
                refine .inr ⟨_, rfl, ?_⟩
                rcases q152 with ⟨a161, a162⟩ | ⟨a163, a164, a165, a166, a167, a168, a169, a170, a171⟩
                · have _q : True := trivial
                  refine jx_ld (pc' := 95) (l' := jSto1 L109 6 (.int (i32 (r118)))) (st' := []) rfl rfl ?_
                  obtain ⟨L172, eL172⟩ : ∃ q, q = jSto1 L109 6 (.int (i32 (r118))) := ⟨_, rfl⟩
                  rw [← eL172]
                  have gL172_0 : jGet L172 0 = some (.ref 66) := eL172 ▸ jg_ne (by decide) gL109_0 rfl
                  have gL172_1 : jGet L172 1 = some (.int (i32 (lv))) := eL172 ▸ jg_ne (by decide) gL109_1 rfl
                  have gL172_2 : jGet L172 2 = some (.int (i32 (n))) := eL172 ▸ jg_ne (by decide) gL109_2 rfl
                  have gL172_3 : jGet L172 3 = some (.int (i32 (last))) := eL172 ▸ jg_ne (by decide) gL109_3 rfl
                  have gL172_4 : jGet L172 4 = some (.int (i32 (many))) := eL172 ▸ jg_ne (by decide) gL109_4 rfl
                  have gL172_5 : jGet L172 5 = some (.int (i32 (r55))) := eL172 ▸ jg_ne (by decide) gL109_5 rfl
                  have gL172_6 : jGet L172 6 = some (.int (i32 (r118))) := eL172 ▸ jg_eq
                  refine jx_ld (pc' := 96) (l' := L172) (st' := [.ref 66]) rfl (jl_aloadn gL172_0) ?_
                  refine jx_vr (pc' := 99) (as := []) (st := []) rfl rfl rfl rfl ⟨rfl, rfl, Nat.le_of_ble_eq_true rfl⟩ rfl rfl (c_bad (dd := d) (hd := by omega) (hW := hW128)  (fk := fk2_121) (e_fk := show G116 16 = fk2_121 from (e136))    ) (fun o V' hq => ?_)
                  obtain ⟨r173, rfl, rfl, b174, q175⟩ := hq
                  refine .inr ⟨_, rfl, ?_⟩
                  rcases q175 with ⟨rfl, a176⟩ | ⟨rfl, a177⟩
                  · have _q : True := trivial
                    refine jx_if_eq (pc' := 102) (tg := 104) rfl rfl rfl (by decide) (by decide) (fun h178 => ?_) (fun h178 => ?_)
                    · have _q := h178
                      exact absurd h178 (by omega)
                    · have _q := h178
                      refine jx_ar (pc' := 103) (st' := [.int (i32 (0))]) rfl rfl rfl rfl ?_
                      refine jx_rt (v := some (.int (i32 (0)))) rfl rfl rfl rfl rfl rfl ?_
                      exact ⟨_, _, _, ln2_119, at2_120, fk2_121, nd2_122, sy2_123, na2_124, vi2_125, lf2_126, ec2_127, rfl, rfl, hW128, hF153, hP154, hS155, hV156, by omega, (e134), (e135), (e136), (e137), (e138), (e139), (e140), (e141), e142, by omega, by omega, by omega, by omega, by omega, by omega, by omega, by omega, by omega, by omega, by first | exact Or.inl (⟨by omega, by omega⟩)⟩
                  · have _q : True := trivial
                    exfalso
                    omega
                · have _q : True := trivial
                  refine jx_ld (pc' := 95) (l' := jSto1 L109 6 (.int (i32 (r118)))) (st' := []) rfl rfl ?_
                  obtain ⟨L179, eL179⟩ : ∃ q, q = jSto1 L109 6 (.int (i32 (r118))) := ⟨_, rfl⟩
                  rw [← eL179]
                  have gL179_0 : jGet L179 0 = some (.ref 66) := eL179 ▸ jg_ne (by decide) gL109_0 rfl
                  have gL179_1 : jGet L179 1 = some (.int (i32 (lv))) := eL179 ▸ jg_ne (by decide) gL109_1 rfl
                  have gL179_2 : jGet L179 2 = some (.int (i32 (n))) := eL179 ▸ jg_ne (by decide) gL109_2 rfl
                  have gL179_3 : jGet L179 3 = some (.int (i32 (last))) := eL179 ▸ jg_ne (by decide) gL109_3 rfl
                  have gL179_4 : jGet L179 4 = some (.int (i32 (many))) := eL179 ▸ jg_ne (by decide) gL109_4 rfl
                  have gL179_5 : jGet L179 5 = some (.int (i32 (r55))) := eL179 ▸ jg_ne (by decide) gL109_5 rfl
                  have gL179_6 : jGet L179 6 = some (.int (i32 (r118))) := eL179 ▸ jg_eq
                  refine jx_ld (pc' := 96) (l' := L179) (st' := [.ref 66]) rfl (jl_aloadn gL179_0) ?_
                  refine jx_vr (pc' := 99) (as := []) (st := []) rfl rfl rfl rfl ⟨rfl, rfl, Nat.le_of_ble_eq_true rfl⟩ rfl rfl (c_bad (dd := d) (hd := by omega) (hW := hW128)  (fk := fk2_121) (e_fk := show G116 16 = fk2_121 from (e136))    ) (fun o V' hq => ?_)
                  obtain ⟨r180, rfl, rfl, b181, q182⟩ := hq
                  refine .inr ⟨_, rfl, ?_⟩
                  rcases q182 with ⟨rfl, a183⟩ | ⟨rfl, a184⟩
                  · have _q : True := trivial
                    exfalso
                    omega
                  · have _q : True := trivial
                    refine jx_if_eq (pc' := 102) (tg := 104) rfl rfl rfl (by decide) (by decide) (fun h185 => ?_) (fun h185 => ?_)
                    · have _q := h185
                      refine jx_ld (pc' := 105) (l' := L179) (st' := [.ref 66]) rfl (jl_aloadn gL179_0) ?_
                      refine jr_get (pc' := 108) (i := 38) (v := .ref 88) rfl rfl (by decide) rfl rfl ?_
                      refine jx_ld (pc' := 110) (l' := L179) (st' := [.int (i32 (r55)), .ref 88]) rfl (jl_iload gL179_5) ?_
                      refine jx_ld (pc' := 112) (l' := L179) (st' := [.int (i32 (r118)), .int (i32 (r55)), .ref 88]) rfl (jl_iload gL179_6) ?_
                      refine jr_st (pc' := 113) (i := 21) (m := 7000) (z := r55) (y := r118) rfl (by decide) rfl (by decide) (by omega) (by omega) rfl ?_
                      have hW187 : Wk G116 (uA A117 21 (r55).toNat (r118)) := Wk_a hW128 (show (-2147483648 : Int) ≤ r118 by omega) (show r118 ≤ (2147483647 : Int) by omega)
                      have hF188 := Fr_a (z := r118) (k := 21) (n := (r55).toNat) hF153 (by decide)
                      obtain ⟨A186, eA186⟩ : ∃ q, q = uA A117 21 (r55).toNat (r118) := ⟨_, rfl⟩
                      rw [← eA186]
                      rw [← eA186] at hW187 hF188
                      have q189 : A186 21 (r55).toNat = r118 := by rw [eA186]; exact uA_eq
                      have hP190 : Pf nd A A186 := eA186 ▸ Pf_a hP154 (z := r55) (by omega) (by omega)
                      have hS191 : Fx sr (sy) A A186 := eA186 ▸ Fx_n hS155 rfl
                      have hV192 : Fx [14] (vi) A A186 := eA186 ▸ Fx_n hV156 rfl
                      have sf193 : ND A186 (n) (32) (0) (0) (0) (0) (Ax 21 (n).toNat) (0) := ND_ag (by omega) (Ag_st eA186 (by omega) (by omega)) sf157
                      have sf194 : CL 2 A186 (sy1) pb (k) (Vs) (n) (last) (many) (n + 1) (nd1) (sy) (sy1) := CL_ag (by omega) (by omega) (Sg_ne eA186 rfl) (Qg_ne eA186 rfl) (Ag_st eA186 (by omega) (by omega)) ((by rw [eA186]; exact uA_ni (by omega))) sf158
                      have sf195 : wU A186 Vs sb (r55) (nd1) (nd2_58) := wU_f eA186 (by omega) sf159
                      have sf196 : NX A186 (r55) := NX_r eA186 (by decide) sf160
                      have sf197 : wP A186 (sy2_123) pb (k) (Vs) (r118) (nd2_58) (nd2_122) (sy1) (sy2_123) := wP_ag (Sg_ne eA186 rfl) (Qg_ne eA186 rfl) (by omega) (by omega) (Ax_ag (Ag_st eA186 (by omega) (by omega))) a169
                      have sf198 : NX A186 (r118) := NX_r eA186 (by decide) a170
                      have ec199 : ecn A186 (G116 31) = ec2_127 := (ecn_e ((congrFun eA186 15).trans (uA_ne (by decide)))).trans e142
                      refine jx_ld (pc' := 114) (l' := L179) (st' := [.ref 66]) rfl (jl_aloadn gL179_0) ?_
                      refine jx_ld (pc' := 115) (l' := L179) (st' := [.int (i32 (n)), .ref 66]) rfl (jl_iloadn gL179_2) ?_
                      refine jx_ld (pc' := 116) (l' := L179) (st' := [.int (i32 (last)), .int (i32 (n)), .ref 66]) rfl (jl_iloadn gL179_3) ?_
                      refine jx_ld (pc' := 118) (l' := L179) (st' := [.int (i32 (r55)), .int (i32 (last)), .int (i32 (n)), .ref 66]) rfl (jl_iload gL179_5) ?_
                      refine jx_vr (pc' := 121) (as := [.int (i32 (n)), .int (i32 (last)), .int (i32 (r55))]) (st := []) rfl rfl rfl rfl ⟨rfl, rfl, Nat.le_of_ble_eq_true rfl⟩ rfl rfl (c_addTo (dd := d) (zz := nd) (hd := by omega) (hW := hW187) (n := n) (last := last) (one := r55)   (h_n := ⟨(Int.le_trans (by decide : (-2147483648 : Int) ≤ -2147483648) rx_n.1), (Int.le_trans rx_n.2 (by decide : (2147483647 : Int) ≤ 2147483647))⟩) (h_last := ⟨(Int.le_trans (by decide : (-2147483648 : Int) ≤ -2147483648) rx_last.1), (Int.le_trans rx_last.2 (by decide : (2147483647 : Int) ≤ 2147483647))⟩) (h_one := ⟨(Int.le_trans (by decide : (-2147483648 : Int) ≤ -2147483648) b64.1), (Int.le_trans b64.2 (by decide : (2147483647 : Int) ≤ 2147483647))⟩)  (p_0 := by omega) (p_1 := by omega) (p_2 := by omega) (p_3 := by omega)) (fun o V' hq => ?_)
                      obtain ⟨G200, A201, rfl, rfl, hW202, hF203, hQ204, q205⟩ := hq
                      have hF206 := Fr_tr hF188 hF203 (Fr_sub (by decide)) (Fr_sub (by decide))
                      have hP207 := Pf_tr hP190 hQ204 (by omega)
                      have hS208 := Fx_f hS191 hF203 (by decide)
                      have hV209 := Fx_f hV192 hF203 (by decide)
                      have ec210 : ecn A201 (G200 31) = ec2_127 := (ecn_f (hF203.2 15 rfl) (hF203.1 31 rfl)).trans ec199
                      refine .inl ⟨rfl, ?_⟩
                      rcases q205 with ⟨a211, a212⟩ | ⟨a213, a214⟩
                      · have _q : True := trivial
                        have sf215 : ND A201 (n) (32) (0) (0) (0) (0) (r55) (0) := ND_f a212 sf193
                        have sf216 : CL 2 A201 (sy2_123) pb (k) (Vs) (n) (r55) (many + 1) (n + 1) (nd2_122) (sy) (sy2_123) := CL_one a212 (by omega) (by omega) (by omega) (by omega) (by omega) (by omega) (show RQ 2 A186 (sy2_123) pb (k) (Vs) (r55) (nd1) (nd2_122) (sy1) (sy2_123) from wG_mk (m := nd2_58) (wU_sb (by omega) (wU_eq sf195 (by omega) (by omega))) (show A186 21 (r55).toNat = r118 from (q189)) (by omega) (by omega) (wP_eq sf197 (by omega) rfl rfl (by omega) rfl (by omega) rfl (by omega))) sf196 (CL_sb (by omega) sf194)
                        have sf217 : wU A201 Vs sb (r55) (nd1) (nd2_58) := wU_ag (by omega) (Sg_ne a212 rfl) (Ax_ag (Ag_st a212 (by omega) (by omega))) sf195
                        have sf218 : NX A201 (r55) := NX_r a212 (by decide) sf196
                        have sf219 : wP A201 (sy2_123) pb (k) (Vs) (r118) (nd2_58) (nd2_122) (sy1) (sy2_123) := wP_ag (Sg_ne a212 rfl) (Qg_ne a212 rfl) (by omega) (by omega) (Ax_ag (Ag_st a212 (by omega) (by omega))) sf197
                        have sf220 : NX A201 (r118) := NX_r a212 (by decide) sf198
                        refine jx_ld (pc' := 123) (l' := L179) (st' := [.int (i32 (r55))]) rfl (jl_iload gL179_5) ?_
                        refine jx_ld (pc' := 124) (l' := jSto1 L179 3 (.int (i32 (r55)))) (st' := []) rfl rfl ?_
                        obtain ⟨L221, eL221⟩ : ∃ q, q = jSto1 L179 3 (.int (i32 (r55))) := ⟨_, rfl⟩
                        rw [← eL221]
                        have gL221_0 : jGet L221 0 = some (.ref 66) := eL221 ▸ jg_ne (by decide) gL179_0 rfl
                        have gL221_1 : jGet L221 1 = some (.int (i32 (lv))) := eL221 ▸ jg_ne (by decide) gL179_1 rfl
                        have gL221_2 : jGet L221 2 = some (.int (i32 (n))) := eL221 ▸ jg_ne (by decide) gL179_2 rfl
                        have gL221_4 : jGet L221 4 = some (.int (i32 (many))) := eL221 ▸ jg_ne (by decide) gL179_4 rfl
                        have gL221_5 : jGet L221 5 = some (.int (i32 (r55))) := eL221 ▸ jg_ne (by decide) gL179_5 rfl
                        have gL221_6 : jGet L221 6 = some (.int (i32 (r118))) := eL221 ▸ jg_ne (by decide) gL179_6 rfl
                        have gL221_3 : jGet L221 3 = some (.int (i32 (r55))) := eL221 ▸ jg_eq
                        refine jx_inc (pc' := 127) (l' := jSto1 L221 4 (.int (i32 ((many + (1)))))) (x := many) rfl gL221_4 (by decide) rfl rfl ?_
                        obtain ⟨L222, eL222⟩ : ∃ q, q = jSto1 L221 4 (.int (i32 ((many + (1))))) := ⟨_, rfl⟩
                        rw [← eL222]
                        have gL222_0 : jGet L222 0 = some (.ref 66) := eL222 ▸ jg_ne (by decide) gL221_0 rfl
                        have gL222_1 : jGet L222 1 = some (.int (i32 (lv))) := eL222 ▸ jg_ne (by decide) gL221_1 rfl
                        have gL222_2 : jGet L222 2 = some (.int (i32 (n))) := eL222 ▸ jg_ne (by decide) gL221_2 rfl
                        have gL222_5 : jGet L222 5 = some (.int (i32 (r55))) := eL222 ▸ jg_ne (by decide) gL221_5 rfl
                        have gL222_6 : jGet L222 6 = some (.int (i32 (r118))) := eL222 ▸ jg_ne (by decide) gL221_6 rfl
                        have gL222_3 : jGet L222 3 = some (.int (i32 (r55))) := eL222 ▸ jg_ne (by decide) gL221_3 rfl
                        have gL222_4 : jGet L222 4 = some (.int (i32 ((many + (1))))) := eL222 ▸ jg_eq
                        refine jx_go (tg := 24) rfl rfl ?_
                        exact ih24 _ (by omega) L222 G200 A201 (n) (r55) ((many + (1))) (ln2_119) (at2_120) (fk2_121) (nd2_122) (sy2_123) (na2_124) (vi2_125) (lf2_126) (ec2_127) rfl gL222_0 gL222_1 gL222_2 gL222_3 gL222_4 hW202 hF206 hP207 hS208 hV209 (((hF203.1 9 rfl).trans (e134))) (((hF203.1 10 rfl).trans (e135))) (((hF203.1 16 rfl).trans (e136))) (((hF203.1 31 rfl).trans (e137))) (((hF203.1 19 rfl).trans (e138))) (((hF203.1 28 rfl).trans (e139))) (((hF203.1 29 rfl).trans (e140))) ((congrFun ((hF203.2 3 rfl).trans ((congrFun eA186 3).trans (uA_ne (by decide)))) _).trans (e141)) (ec210) (by omega) (by omega) (by omega) (by omega) (by omega) (by omega) (by omega) (by omega) (by omega) (by omega) (by omega) (by omega) (by omega) (by omega) (by omega) (by omega) (by omega) (by omega) ((ND_sf sf215)) ((CL_eq (CL_sb (by omega) sf216) (by omega) (by omega) (by omega) (by omega) (by omega) (by omega))) (by omega)
                      · have _q : True := trivial
                        have sf223 : ND A201 (n) (32) (0) (0) (0) (0) (Ax 21 (n).toNat) (0) := ND_ag (by omega) (Ag_st a214 (by omega) (by omega)) sf193
                        have sf224 : CL 2 A201 (sy2_123) pb (k) (Vs) (n) (r55) (many + 1) (n + 1) (nd2_122) (sy) (sy2_123) := CL_two a214 (by omega) (by omega) (by omega) (by omega) (by omega) (show RQ 2 A186 (sy2_123) pb (k) (Vs) (r55) (nd1) (nd2_122) (sy1) (sy2_123) from wG_mk (m := nd2_58) (wU_sb (by omega) (wU_eq sf195 (by omega) (by omega))) (show A186 21 (r55).toNat = r118 from (q189)) (by omega) (by omega) (wP_eq sf197 (by omega) rfl rfl (by omega) rfl (by omega) rfl (by omega))) sf196 (CL_sb (by omega) sf194)
                        have sf225 : wU A201 Vs sb (r55) (nd1) (nd2_58) := wU_ag (by omega) (Sg_ne a214 rfl) (Ax_ag (Ag_st a214 (by omega) (by omega))) sf195
                        have sf226 : NX A201 (r55) := NX_ag (by omega) (Ag_st a214 (by omega) (by omega)) sf196
                        have sf227 : wP A201 (sy2_123) pb (k) (Vs) (r118) (nd2_58) (nd2_122) (sy1) (sy2_123) := wP_ag (Sg_ne a214 rfl) (Qg_ne a214 rfl) (by omega) (by omega) (Ax_ag (Ag_st a214 (by omega) (by omega))) sf197
                        have sf228 : NX A201 (r118) := NX_ag (by omega) (Ag_st a214 (by omega) (by omega)) sf198
                        refine jx_ld (pc' := 123) (l' := L179) (st' := [.int (i32 (r55))]) rfl (jl_iload gL179_5) ?_
                        refine jx_ld (pc' := 124) (l' := jSto1 L179 3 (.int (i32 (r55)))) (st' := []) rfl rfl ?_
                        obtain ⟨L229, eL229⟩ : ∃ q, q = jSto1 L179 3 (.int (i32 (r55))) := ⟨_, rfl⟩
                        rw [← eL229]
                        have gL229_0 : jGet L229 0 = some (.ref 66) := eL229 ▸ jg_ne (by decide) gL179_0 rfl
                        have gL229_1 : jGet L229 1 = some (.int (i32 (lv))) := eL229 ▸ jg_ne (by decide) gL179_1 rfl
                        have gL229_2 : jGet L229 2 = some (.int (i32 (n))) := eL229 ▸ jg_ne (by decide) gL179_2 rfl
                        have gL229_4 : jGet L229 4 = some (.int (i32 (many))) := eL229 ▸ jg_ne (by decide) gL179_4 rfl
                        have gL229_5 : jGet L229 5 = some (.int (i32 (r55))) := eL229 ▸ jg_ne (by decide) gL179_5 rfl
                        have gL229_6 : jGet L229 6 = some (.int (i32 (r118))) := eL229 ▸ jg_ne (by decide) gL179_6 rfl
                        have gL229_3 : jGet L229 3 = some (.int (i32 (r55))) := eL229 ▸ jg_eq
                        refine jx_inc (pc' := 127) (l' := jSto1 L229 4 (.int (i32 ((many + (1)))))) (x := many) rfl gL229_4 (by decide) rfl rfl ?_
                        obtain ⟨L230, eL230⟩ : ∃ q, q = jSto1 L229 4 (.int (i32 ((many + (1))))) := ⟨_, rfl⟩
                        rw [← eL230]
                        have gL230_0 : jGet L230 0 = some (.ref 66) := eL230 ▸ jg_ne (by decide) gL229_0 rfl
                        have gL230_1 : jGet L230 1 = some (.int (i32 (lv))) := eL230 ▸ jg_ne (by decide) gL229_1 rfl
                        have gL230_2 : jGet L230 2 = some (.int (i32 (n))) := eL230 ▸ jg_ne (by decide) gL229_2 rfl
                        have gL230_5 : jGet L230 5 = some (.int (i32 (r55))) := eL230 ▸ jg_ne (by decide) gL229_5 rfl
                        have gL230_6 : jGet L230 6 = some (.int (i32 (r118))) := eL230 ▸ jg_ne (by decide) gL229_6 rfl
                        have gL230_3 : jGet L230 3 = some (.int (i32 (r55))) := eL230 ▸ jg_ne (by decide) gL229_3 rfl
                        have gL230_4 : jGet L230 4 = some (.int (i32 ((many + (1))))) := eL230 ▸ jg_eq
                        refine jx_go (tg := 24) rfl rfl ?_
                        exact ih24 _ (by omega) L230 G200 A201 (n) (r55) ((many + (1))) (ln2_119) (at2_120) (fk2_121) (nd2_122) (sy2_123) (na2_124) (vi2_125) (lf2_126) (ec2_127) rfl gL230_0 gL230_1 gL230_2 gL230_3 gL230_4 hW202 hF206 hP207 hS208 hV209 (((hF203.1 9 rfl).trans (e134))) (((hF203.1 10 rfl).trans (e135))) (((hF203.1 16 rfl).trans (e136))) (((hF203.1 31 rfl).trans (e137))) (((hF203.1 19 rfl).trans (e138))) (((hF203.1 28 rfl).trans (e139))) (((hF203.1 29 rfl).trans (e140))) ((congrFun ((hF203.2 3 rfl).trans ((congrFun eA186 3).trans (uA_ne (by decide)))) _).trans (e141)) (ec210) (by omega) (by omega) (by omega) (by omega) (by omega) (by omega) (by omega) (by omega) (by omega) (by omega) (by omega) (by omega) (by omega) (by omega) (by omega) (by omega) (by omega) (by omega) ((ND_sf sf223)) ((CL_eq (CL_sb (by omega) sf224) (by omega) (by omega) (by omega) (by omega) (by omega) (by omega))) (by omega)
                    · have _q := h185
                      exact absurd h185 (by omega)
              · have _q := h115
                exact absurd h115 (by omega)
        · have _q := h29
          refine jx_ld (pc' := 40) (l' := L) (st' := [.ref 66]) rfl (jl_aloadn gL_0) ?_
          refine jx_ar (pc' := 41) (st' := [.int (i32 (1)), .ref 66]) rfl rfl rfl rfl ?_
          refine jx_ld (pc' := 42) (l' := L) (st' := [.ref 66, .int (i32 (1)), .ref 66]) rfl (jl_aloadn gL_0) ?_
          refine jr_get (pc' := 45) (i := 6) (v := .ref 70) rfl rfl (by decide) rfl rfl ?_
          refine jx_ld (pc' := 46) (l' := L) (st' := [.ref 66, .ref 70, .int (i32 (1)), .ref 66]) rfl (jl_aloadn gL_0) ?_
          refine jr_get (pc' := 49) (i := 9) (v := .int (i32 (ln1))) rfl rfl (by decide) (rFv_eq (by decide) (show G2 9 = ln1 from ((hF7.1 9 rfl).trans (ex_ln1)))) rfl ?_
          refine jr_ldv (pc' := 50) (i := 3) (m := 3001) (z := ln1) (y := lf1) rfl (by decide) rfl (by decide) (Int.le_trans (by decide : (0 : Int) ≤ 0) b_ln1.1) (Int.lt_of_le_of_lt b_ln1.2 (by decide : (3000 : Int) < ((3001 : Nat) : Int))) rfl (show A3 3 (ln1).toNat = lf1 from (congrFun (hF7.2 3 rfl) _).trans (ex_lf1)) ?_
          refine jx_ld (pc' := 51) (l' := L) (st' := [.ref 66, .int (i32 (lf1)), .int (i32 (1)), .ref 66]) rfl (jl_aloadn gL_0) ?_
          refine jr_get (pc' := 54) (i := 5) (v := .ref 69) rfl rfl (by decide) rfl rfl ?_
          refine jx_ld (pc' := 55) (l' := L) (st' := [.ref 66, .ref 69, .int (i32 (lf1)), .int (i32 (1)), .ref 66]) rfl (jl_aloadn gL_0) ?_
          refine jr_get (pc' := 58) (i := 9) (v := .int (i32 (ln1))) rfl rfl (by decide) (rFv_eq (by decide) (show G2 9 = ln1 from ((hF7.1 9 rfl).trans (ex_ln1)))) rfl ?_
          have b231 : (0 : Int) ≤ A 2 (ln1).toNat ∧ A 2 (ln1).toNat ≤ 3000 := hW.2 2 _
          refine jr_ldv (pc' := 59) (i := 2) (m := 3001) (z := ln1) (y := A 2 (ln1).toNat) rfl (by decide) rfl (by decide) (Int.le_trans (by decide : (0 : Int) ≤ 0) b_ln1.1) (Int.lt_of_le_of_lt b_ln1.2 (by decide : (3000 : Int) < ((3001 : Nat) : Int))) rfl (show A3 2 (ln1).toNat = A 2 (ln1).toNat from (congrFun ((hF7.2 2 rfl).trans (hFx.2 2 rfl)) _)) ?_
          refine jx_sub (pc' := 60) rfl rfl ?_
          refine jx_vr (pc' := 63) (as := [.int (i32 (1)), .int (i32 ((lf1 - A 2 (ln1).toNat)))]) (st := []) rfl rfl rfl rfl ⟨rfl, rfl, Nat.le_of_ble_eq_true rfl⟩ rfl rfl (c_fail (dd := d) (hd := by omega) (hW := hW6) (kind := 1) (place := (lf1 - A 2 (ln1).toNat)) (fk := fk2_5) (e_fk := show G2 16 = fk2_5 from (e9))  (h_kind := ⟨(by decide), (by decide)⟩) (h_place := ⟨(by omega), (by omega)⟩)  (p_0 := by omega) (p_1 := by omega)) (fun o V' hq => ?_)
          obtain ⟨G232, A233, fk2_234, rfl, rfl, hW235, hF236, e237, p238, -⟩ := hq
          have hF240 := Fr_tr hF11 hF236 (Fr_sub (by decide)) (Fr_sub (by decide))
          have hP241 := Pf_f hP12 hF236 (by decide)
          have hS242 := Fx_f hS13 hF236 (by decide)
          have hV243 := Fx_f hV14 hF236 (by decide)
          have sf244 : ND A233 (n) (32) (0) (0) (0) (0) (Ax 21 (n).toNat) (0) := ND_ag (by omega) (Ag_fr hF236 (by decide)) sf15
          have sf245 : CL 2 A233 (sy1) pb (k) (Vs) (n) (last) (many) (n + 1) (nd1) (sy) (sy1) := CL_ag (by omega) (by omega) (Sg_fr hF236 (by decide)) (Qg_fr hF236 (by decide)) (Ag_fr hF236 (by decide)) (congrFun (hF236.2 21 rfl) _) sf16
          have ec246 : ecn A233 (G232 31) = ec1 := (ecn_f (hF236.2 15 rfl) (hF236.1 31 rfl)).trans ec17
          have bfk2_234 : (0 : Int) ≤ fk2_234 ∧ fk2_234 ≤ 6 := e237 ▸ hW235.1 16
          refine .inl ⟨rfl, ?_⟩
          refine jx_ar (pc' := 64) (st' := [.int (i32 (0))]) rfl rfl rfl rfl ?_
          refine jx_rt (v := some (.int (i32 (0)))) rfl rfl rfl rfl rfl rfl ?_
          exact ⟨_, _, _, ln1, at1, fk2_234, nd1, sy1, na1, vi1, lf1, ec1, rfl, rfl, hW235, hF240, hP241, hS242, hV243, by omega, ((hF236.1 9 rfl).trans ((hF7.1 9 rfl).trans (ex_ln1))), ((hF236.1 10 rfl).trans ((hF7.1 10 rfl).trans (ex_at1))), (e237), ((hF236.1 31 rfl).trans ((hF7.1 31 rfl).trans (ex_nd1))), ((hF236.1 19 rfl).trans ((hF7.1 19 rfl).trans (ex_sy1))), ((hF236.1 28 rfl).trans ((hF7.1 28 rfl).trans (ex_na1))), ((hF236.1 29 rfl).trans ((hF7.1 29 rfl).trans (ex_vi1))), (congrFun ((hF236.2 3 rfl).trans (hF7.2 3 rfl)) _).trans (ex_lf1), ec246, by omega, by omega, by omega, by omega, by omega, by omega, by omega, by omega, by omega, by omega, by first | exact Or.inl (⟨by omega, by omega⟩)⟩
    · have _q : True := trivial
      refine jx_if_eq (pc' := 32) (tg := 130) rfl rfl rfl (by decide) (by decide) (fun h247 => ?_) (fun h247 => ?_)
      · have _q := h247
        refine jx_ld (pc' := 131) (l' := L) (st' := [.ref 66]) rfl (jl_aloadn gL_0) ?_
        refine jx_vr (pc' := 134) (as := []) (st := []) rfl rfl rfl rfl ⟨rfl, rfl, Nat.le_of_ble_eq_true rfl⟩ rfl rfl (c_bad (dd := d) (hd := by omega) (hW := hW6)  (fk := fk2_5) (e_fk := show G2 16 = fk2_5 from (e9))    ) (fun o V' hq => ?_)
        obtain ⟨r248, rfl, rfl, b249, q250⟩ := hq
        refine .inr ⟨_, rfl, ?_⟩
        rcases q250 with ⟨rfl, a251⟩ | ⟨rfl, a252⟩
        · have _q : True := trivial
          refine jx_if_ne (pc' := 137) (tg := 150) rfl rfl rfl (by decide) (by decide) (fun h253 => ?_) (fun h253 => ?_)
          · have _q := h253
            refine jx_ld (pc' := 151) (l' := L) (st' := [.ref 66]) rfl (jl_aloadn gL_0) ?_
            refine jr_get (pc' := 154) (i := 35) (v := .ref 85) rfl rfl (by decide) rfl rfl ?_
            refine jx_ld (pc' := 155) (l' := L) (st' := [.int (i32 (n)), .ref 85]) rfl (jl_iloadn gL_2) ?_
            refine jx_ld (pc' := 157) (l' := L) (st' := [.int (i32 (many)), .int (i32 (n)), .ref 85]) rfl (jl_iload gL_4) ?_
            refine jr_st (pc' := 158) (i := 18) (m := 7000) (z := n) (y := many) rfl (by decide) rfl (by decide) (by omega) (by omega) rfl ?_
            have hW255 : Wk G2 (uA A3 18 (n).toNat (many)) := Wk_a hW6 (show (-2147483648 : Int) ≤ many by omega) (show many ≤ (2147483647 : Int) by omega)
            have hF256 := Fr_a (z := many) (k := 18) (n := (n).toNat) hF11 (by decide)
            obtain ⟨A254, eA254⟩ : ∃ q, q = uA A3 18 (n).toNat (many) := ⟨_, rfl⟩
            rw [← eA254]
            rw [← eA254] at hW255 hF256
            have q257 : A254 18 (n).toNat = many := by rw [eA254]; exact uA_eq
            have hP258 : Pf nd A A254 := eA254 ▸ Pf_a hP12 (z := n) (by omega) (by omega)
            have hS259 : Fx sr (sy) A A254 := eA254 ▸ Fx_n hS13 rfl
            have hV260 : Fx [14] (vi) A A254 := eA254 ▸ Fx_n hV14 rfl
            have sf261 : ND A254 (n) (32) (0) (many) (0) (0) (Ax 21 (n).toNat) (0) := ND_b eA254 sf15
            have sf262 : CL 2 A254 (sy1) pb (k) (Vs) (n) (last) (many) (n + 1) (nd1) (sy) (sy1) := CL_ag (by omega) (by omega) (Sg_ne eA254 rfl) (Qg_ne eA254 rfl) (Ag_st eA254 (by omega) (by omega)) ((congrFun ((congrFun eA254 21).trans (uA_ne (by decide))) _)) sf16
            have ec263 : ecn A254 (G2 31) = ec1 := (ecn_e ((congrFun eA254 15).trans (uA_ne (by decide)))).trans ec17
            refine jx_ld (pc' := 159) (l' := L) (st' := [.int (i32 (n))]) rfl (jl_iloadn gL_2) ?_
            refine jx_rt (v := some (.int (i32 (n)))) rfl rfl rfl rfl rfl rfl ?_
            exact ⟨_, _, _, ln1, at1, fk2_5, nd1, sy1, na1, vi1, lf1, ec1, rfl, rfl, hW255, hF256, hP258, hS259, hV260, by omega, ((hF7.1 9 rfl).trans (ex_ln1)), ((hF7.1 10 rfl).trans (ex_at1)), (e9), ((hF7.1 31 rfl).trans (ex_nd1)), ((hF7.1 19 rfl).trans (ex_sy1)), ((hF7.1 28 rfl).trans (ex_na1)), ((hF7.1 29 rfl).trans (ex_vi1)), (congrFun (((congrFun eA254 3).trans (uA_ne (by decide))).trans (hF7.2 3 rfl)) _).trans (ex_lf1), ec263, by omega, by omega, by omega, by omega, by omega, by omega, by omega, by omega, by omega, by omega, by first | exact Or.inl (⟨by omega, by omega⟩)⟩
          · have _q := h253
            exact absurd h253 (by omega)
        · have _q : True := trivial
          exfalso
          omega
      · have _q := h247
        exact absurd h247 (by omega)
    · have _q : True := trivial
      refine jx_if_eq (pc' := 32) (tg := 130) rfl rfl rfl (by decide) (by decide) (fun h264 => ?_) (fun h264 => ?_)
      · have _q := h264
        refine jx_ld (pc' := 131) (l' := L) (st' := [.ref 66]) rfl (jl_aloadn gL_0) ?_
        refine jx_vr (pc' := 134) (as := []) (st := []) rfl rfl rfl rfl ⟨rfl, rfl, Nat.le_of_ble_eq_true rfl⟩ rfl rfl (c_bad (dd := d) (hd := by omega) (hW := hW6)  (fk := fk2_5) (e_fk := show G2 16 = fk2_5 from (e9))    ) (fun o V' hq => ?_)
        obtain ⟨r265, rfl, rfl, b266, q267⟩ := hq
        refine .inr ⟨_, rfl, ?_⟩
        rcases q267 with ⟨rfl, a268⟩ | ⟨rfl, a269⟩
        · have _q : True := trivial
          exfalso
          omega
        · have _q : True := trivial
          refine jx_if_ne (pc' := 137) (tg := 150) rfl rfl rfl (by decide) (by decide) (fun h270 => ?_) (fun h270 => ?_)
          · have _q := h270
            exact absurd h270 (by omega)
          · have _q := h270
            refine jx_ld (pc' := 139) (l' := L) (st' := [.int (i32 (many))]) rfl (jl_iload gL_4) ?_
            refine jx_if_ne (pc' := 142) (tg := 150) rfl rfl rfl (Int.le_trans (by decide : (-2147483648 : Int) ≤ -2147483648) rx_many.1) (Int.le_trans rx_many.2 (by decide : (2147483647 : Int) ≤ 2147483647)) (fun h271 => ?_) (fun h271 => ?_)
            · have _q := h271
              refine jx_ld (pc' := 151) (l' := L) (st' := [.ref 66]) rfl (jl_aloadn gL_0) ?_
              refine jr_get (pc' := 154) (i := 35) (v := .ref 85) rfl rfl (by decide) rfl rfl ?_
              refine jx_ld (pc' := 155) (l' := L) (st' := [.int (i32 (n)), .ref 85]) rfl (jl_iloadn gL_2) ?_
              refine jx_ld (pc' := 157) (l' := L) (st' := [.int (i32 (many)), .int (i32 (n)), .ref 85]) rfl (jl_iload gL_4) ?_
              refine jr_st (pc' := 158) (i := 18) (m := 7000) (z := n) (y := many) rfl (by decide) rfl (by decide) (by omega) (by omega) rfl ?_
              have hW273 : Wk G2 (uA A3 18 (n).toNat (many)) := Wk_a hW6 (show (-2147483648 : Int) ≤ many by omega) (show many ≤ (2147483647 : Int) by omega)
              have hF274 := Fr_a (z := many) (k := 18) (n := (n).toNat) hF11 (by decide)
              obtain ⟨A272, eA272⟩ : ∃ q, q = uA A3 18 (n).toNat (many) := ⟨_, rfl⟩
              rw [← eA272]
              rw [← eA272] at hW273 hF274
              have q275 : A272 18 (n).toNat = many := by rw [eA272]; exact uA_eq
              have hP276 : Pf nd A A272 := eA272 ▸ Pf_a hP12 (z := n) (by omega) (by omega)
              have hS277 : Fx sr (sy) A A272 := eA272 ▸ Fx_n hS13 rfl
              have hV278 : Fx [14] (vi) A A272 := eA272 ▸ Fx_n hV14 rfl
              have sf279 : ND A272 (n) (32) (0) (many) (0) (0) (Ax 21 (n).toNat) (0) := ND_b eA272 sf15
              have sf280 : CL 2 A272 (sy1) pb (k) (Vs) (n) (last) (many) (n + 1) (nd1) (sy) (sy1) := CL_ag (by omega) (by omega) (Sg_ne eA272 rfl) (Qg_ne eA272 rfl) (Ag_st eA272 (by omega) (by omega)) ((congrFun ((congrFun eA272 21).trans (uA_ne (by decide))) _)) sf16
              have ec281 : ecn A272 (G2 31) = ec1 := (ecn_e ((congrFun eA272 15).trans (uA_ne (by decide)))).trans ec17
              refine jx_ld (pc' := 159) (l' := L) (st' := [.int (i32 (n))]) rfl (jl_iloadn gL_2) ?_
              refine jx_rt (v := some (.int (i32 (n)))) rfl rfl rfl rfl rfl rfl ?_
              exact ⟨_, _, _, ln1, at1, fk2_5, nd1, sy1, na1, vi1, lf1, ec1, rfl, rfl, hW273, hF274, hP276, hS277, hV278, by omega, ((hF7.1 9 rfl).trans (ex_ln1)), ((hF7.1 10 rfl).trans (ex_at1)), (e9), ((hF7.1 31 rfl).trans (ex_nd1)), ((hF7.1 19 rfl).trans (ex_sy1)), ((hF7.1 28 rfl).trans (ex_na1)), ((hF7.1 29 rfl).trans (ex_vi1)), (congrFun (((congrFun eA272 3).trans (uA_ne (by decide))).trans (hF7.2 3 rfl)) _).trans (ex_lf1), ec281, by omega, by omega, by omega, by omega, by omega, by omega, by omega, by omega, by omega, by omega, by first | exact Or.inr ((⟨by omega, by omega, by omega, by omega, by omega, by omega, by omega, (wS_alt sf279 (RL_eq (RL_cl sf280) (by omega) (by omega) (by omega) (by omega) (by omega)) (by omega) (by omega)), (NX_nd sf279), by omega⟩))⟩
            · have _q := h271
              refine jx_ld (pc' := 143) (l' := L) (st' := [.ref 66]) rfl (jl_aloadn gL_0) ?_
              refine jx_ld (pc' := 144) (l' := L) (st' := [.int (i32 (lv)), .ref 66]) rfl (jl_iloadn gL_1) ?_
              refine jx_ar (pc' := 145) (st' := [.int (i32 (1)), .int (i32 (lv)), .ref 66]) rfl rfl rfl rfl ?_
              refine jx_add (pc' := 146) rfl rfl ?_
              refine jx_vr (pc' := 149) (as := [.int (i32 ((lv + 1)))]) (st := []) rfl rfl rfl rfl ⟨rfl, rfl, Nat.le_of_ble_eq_true rfl⟩ rfl rfl (c_needLevel (dd := d) (hd := by omega) (hW := hW6) (lv := (lv + 1)) (ln := ln1) (e_ln := show G2 9 = ln1 from ((hF7.1 9 rfl).trans (ex_ln1))) (li := li) (e_li := show G2 3 = li from ((hF7.1 3 rfl).trans ((hFx.1 3 rfl).trans (e_li)))) (fk := fk2_5) (e_fk := show G2 16 = fk2_5 from (e9)) (ll := A 5 (ln1).toNat) (e_ll := show A3 5 (ln1).toNat = A 5 (ln1).toNat from (congrFun ((hF7.2 5 rfl).trans (hFx.2 5 rfl)) _))  (h_lv := ⟨(by omega), (by omega)⟩)  ) (fun o V' hq => ?_)
              obtain ⟨G282, A283, r284, fk2_285, rfl, rfl, hW286, hF287, b288, e289, q290⟩ := hq
              have hF291 := Fr_tr hF11 hF287 (Fr_sub (by decide)) (Fr_sub (by decide))
              have hP292 := Pf_f hP12 hF287 (by decide)
              have hS293 := Fx_f hS13 hF287 (by decide)
              have hV294 := Fx_f hV14 hF287 (by decide)
              have sf295 : ND A283 (n) (32) (0) (0) (0) (0) (Ax 21 (n).toNat) (0) := ND_ag (by omega) (Ag_fr hF287 (by decide)) sf15
              have sf296 : CL 2 A283 (sy1) pb (k) (Vs) (n) (last) (many) (n + 1) (nd1) (sy) (sy1) := CL_ag (by omega) (by omega) (Sg_fr hF287 (by decide)) (Qg_fr hF287 (by decide)) (Ag_fr hF287 (by decide)) (congrFun (hF287.2 21 rfl) _) sf16
              have ec297 : ecn A283 (G282 31) = ec1 := (ecn_f (hF287.2 15 rfl) (hF287.1 31 rfl)).trans ec17
              have bfk2_285 : (0 : Int) ≤ fk2_285 ∧ fk2_285 ≤ 6 := e289 ▸ hW286.1 16
              refine .inr ⟨_, rfl, ?_⟩
              rcases q290 with ⟨rfl, a298, a299, a300, a301⟩ | ⟨rfl, a302⟩
              · have _q : True := trivial
                have b303 : (0 : Int) ≤ A 4 (ln1).toNat ∧ A 4 (ln1).toNat ≤ 3000 := hW.2 4 _
                have lt304 : lf1 < A 4 (ln1).toNat := LT_at (LT_ext (((hF287.1 3 rfl).trans ((hF7.1 3 rfl).trans (hFx.1 3 rfl)))) (((hF287.2 3 rfl).trans ((hF7.2 3 rfl).trans (hFx.2 3 rfl)))) (((hF287.2 4 rfl).trans ((hF7.2 4 rfl).trans (hFx.2 4 rfl)))) i_LT) (show G282 3 = li from ((hF287.1 3 rfl).trans ((hF7.1 3 rfl).trans ((hFx.1 3 rfl).trans (e_li))))) (show A283 3 (ln1).toNat = lf1 from (congrFun ((hF287.2 3 rfl).trans (hF7.2 3 rfl)) _).trans (ex_lf1)) (show A283 4 (ln1).toNat = A 4 (ln1).toNat from (congrFun ((hF287.2 4 rfl).trans ((hF7.2 4 rfl).trans (hFx.2 4 rfl))) _)) (by omega) (by omega)
                refine jx_ar (pc' := 150) (st' := []) rfl rfl rfl rfl ?_
                refine jx_ld (pc' := 151) (l' := L) (st' := [.ref 66]) rfl (jl_aloadn gL_0) ?_
                refine jr_get (pc' := 154) (i := 35) (v := .ref 85) rfl rfl (by decide) rfl rfl ?_
                refine jx_ld (pc' := 155) (l' := L) (st' := [.int (i32 (n)), .ref 85]) rfl (jl_iloadn gL_2) ?_
                refine jx_ld (pc' := 157) (l' := L) (st' := [.int (i32 (many)), .int (i32 (n)), .ref 85]) rfl (jl_iload gL_4) ?_
                refine jr_st (pc' := 158) (i := 18) (m := 7000) (z := n) (y := many) rfl (by decide) rfl (by decide) (by omega) (by omega) rfl ?_
                have hW306 : Wk G282 (uA A283 18 (n).toNat (many)) := Wk_a hW286 (show (-2147483648 : Int) ≤ many by omega) (show many ≤ (2147483647 : Int) by omega)
                have hF307 := Fr_a (z := many) (k := 18) (n := (n).toNat) hF291 (by decide)
                obtain ⟨A305, eA305⟩ : ∃ q, q = uA A283 18 (n).toNat (many) := ⟨_, rfl⟩
                rw [← eA305]
                rw [← eA305] at hW306 hF307
                have q308 : A305 18 (n).toNat = many := by rw [eA305]; exact uA_eq
                have hP309 : Pf nd A A305 := eA305 ▸ Pf_a hP292 (z := n) (by omega) (by omega)
                have hS310 : Fx sr (sy) A A305 := eA305 ▸ Fx_n hS293 rfl
                have hV311 : Fx [14] (vi) A A305 := eA305 ▸ Fx_n hV294 rfl
                have sf312 : ND A305 (n) (32) (0) (many) (0) (0) (Ax 21 (n).toNat) (0) := ND_b eA305 sf295
                have sf313 : CL 2 A305 (sy1) pb (k) (Vs) (n) (last) (many) (n + 1) (nd1) (sy) (sy1) := CL_ag (by omega) (by omega) (Sg_ne eA305 rfl) (Qg_ne eA305 rfl) (Ag_st eA305 (by omega) (by omega)) ((congrFun ((congrFun eA305 21).trans (uA_ne (by decide))) _)) sf296
                have ec314 : ecn A305 (G282 31) = ec1 := (ecn_e ((congrFun eA305 15).trans (uA_ne (by decide)))).trans ec297
                refine jx_ld (pc' := 159) (l' := L) (st' := [.int (i32 (n))]) rfl (jl_iloadn gL_2) ?_
                refine jx_rt (v := some (.int (i32 (n)))) rfl rfl rfl rfl rfl rfl ?_
                exact ⟨_, _, _, ln1, at1, fk2_285, nd1, sy1, na1, vi1, lf1, ec1, rfl, rfl, hW306, hF307, hP309, hS310, hV311, by omega, ((hF287.1 9 rfl).trans ((hF7.1 9 rfl).trans (ex_ln1))), ((hF287.1 10 rfl).trans ((hF7.1 10 rfl).trans (ex_at1))), (e289), ((hF287.1 31 rfl).trans ((hF7.1 31 rfl).trans (ex_nd1))), ((hF287.1 19 rfl).trans ((hF7.1 19 rfl).trans (ex_sy1))), ((hF287.1 28 rfl).trans ((hF7.1 28 rfl).trans (ex_na1))), ((hF287.1 29 rfl).trans ((hF7.1 29 rfl).trans (ex_vi1))), (congrFun (((congrFun eA305 3).trans (uA_ne (by decide))).trans ((hF287.2 3 rfl).trans (hF7.2 3 rfl))) _).trans (ex_lf1), ec314, by omega, by omega, by omega, by omega, by omega, by omega, by omega, by omega, by omega, by omega, by first | exact Or.inr ((⟨by omega, by omega, by omega, by omega, by omega, by omega, by omega, (wS_alt sf312 (RL_eq (RL_cl sf313) (by omega) (by omega) (by omega) (by omega) (by omega)) (by omega) (by omega)), (NX_nd sf312), by omega⟩))⟩
              · have _q : True := trivial
                refine jx_ar (pc' := 150) (st' := []) rfl rfl rfl rfl ?_
                refine jx_ld (pc' := 151) (l' := L) (st' := [.ref 66]) rfl (jl_aloadn gL_0) ?_
                refine jr_get (pc' := 154) (i := 35) (v := .ref 85) rfl rfl (by decide) rfl rfl ?_
                refine jx_ld (pc' := 155) (l' := L) (st' := [.int (i32 (n)), .ref 85]) rfl (jl_iloadn gL_2) ?_
                refine jx_ld (pc' := 157) (l' := L) (st' := [.int (i32 (many)), .int (i32 (n)), .ref 85]) rfl (jl_iload gL_4) ?_
                refine jr_st (pc' := 158) (i := 18) (m := 7000) (z := n) (y := many) rfl (by decide) rfl (by decide) (by omega) (by omega) rfl ?_
                have hW316 : Wk G282 (uA A283 18 (n).toNat (many)) := Wk_a hW286 (show (-2147483648 : Int) ≤ many by omega) (show many ≤ (2147483647 : Int) by omega)
                have hF317 := Fr_a (z := many) (k := 18) (n := (n).toNat) hF291 (by decide)
                obtain ⟨A315, eA315⟩ : ∃ q, q = uA A283 18 (n).toNat (many) := ⟨_, rfl⟩
                rw [← eA315]
                rw [← eA315] at hW316 hF317
                have q318 : A315 18 (n).toNat = many := by rw [eA315]; exact uA_eq
                have hP319 : Pf nd A A315 := eA315 ▸ Pf_a hP292 (z := n) (by omega) (by omega)
                have hS320 : Fx sr (sy) A A315 := eA315 ▸ Fx_n hS293 rfl
                have hV321 : Fx [14] (vi) A A315 := eA315 ▸ Fx_n hV294 rfl
                have sf322 : ND A315 (n) (32) (0) (many) (0) (0) (Ax 21 (n).toNat) (0) := ND_b eA315 sf295
                have sf323 : CL 2 A315 (sy1) pb (k) (Vs) (n) (last) (many) (n + 1) (nd1) (sy) (sy1) := CL_ag (by omega) (by omega) (Sg_ne eA315 rfl) (Qg_ne eA315 rfl) (Ag_st eA315 (by omega) (by omega)) ((congrFun ((congrFun eA315 21).trans (uA_ne (by decide))) _)) sf296
                have ec324 : ecn A315 (G282 31) = ec1 := (ecn_e ((congrFun eA315 15).trans (uA_ne (by decide)))).trans ec297
                refine jx_ld (pc' := 159) (l' := L) (st' := [.int (i32 (n))]) rfl (jl_iloadn gL_2) ?_
                refine jx_rt (v := some (.int (i32 (n)))) rfl rfl rfl rfl rfl rfl ?_
                exact ⟨_, _, _, ln1, at1, fk2_285, nd1, sy1, na1, vi1, lf1, ec1, rfl, rfl, hW316, hF317, hP319, hS320, hV321, by omega, ((hF287.1 9 rfl).trans ((hF7.1 9 rfl).trans (ex_ln1))), ((hF287.1 10 rfl).trans ((hF7.1 10 rfl).trans (ex_at1))), (e289), ((hF287.1 31 rfl).trans ((hF7.1 31 rfl).trans (ex_nd1))), ((hF287.1 19 rfl).trans ((hF7.1 19 rfl).trans (ex_sy1))), ((hF287.1 28 rfl).trans ((hF7.1 28 rfl).trans (ex_na1))), ((hF287.1 29 rfl).trans ((hF7.1 29 rfl).trans (ex_vi1))), (congrFun (((congrFun eA315 3).trans (uA_ne (by decide))).trans ((hF287.2 3 rfl).trans (hF7.2 3 rfl))) _).trans (ex_lf1), ec324, by omega, by omega, by omega, by omega, by omega, by omega, by omega, by omega, by omega, by omega, by first | exact Or.inl (⟨by omega, by omega⟩)⟩
      · have _q := h264
        exact absurd h264 (by omega)
set_option maxRecDepth 20000 in
set_option maxHeartbeats 4000000 in
theorem c_readAlt_w {X : jX} {k : Nat} (hP : RPw X k) {dd : Nat} {Vs : Nat → Prop} {sb pb : Int} (hvb : VB Vs sb) {c0 c1 : jC} {G : Nat → Int} {A : Nat → Nat → Int} {T : jH} {lv : Int} {ln li at0 fk nd sy na vi le op0 tk0 ec : Int} (hd : 8 * k + 82 ≤ dd) (hW : Wk G A) (e_ln : G 9 = ln) (e_li : G 3 = li) (e_at0 : G 10 = at0) (e_fk : G 16 = fk) (e_nd : G 31 = nd) (e_sy : G 19 = sy) (e_na : G 28 = na) (e_vi : G 29 = vi) (e_le : A 4 (ln).toNat = le) (e_op0 : G 15 = op0) (e_tk0 : G 11 = tk0) (e_ec : ecn A (G 31) = ec) (i_LT : LT G A) (i_SV : SV Vs sb G A) (i_PQ : PQ Vs sb pb G A) (h_lv : (-2147483648 : Int) ≤ lv ∧ lv ≤ 2147483647) (p_0 : 0 ≤ lv ∧ lv ≤ 15) (p_1 : 18 - lv ≤ ((k + 1 : Nat) : Int)) (p_2 : fk = 0) (p_3 : ln < li) (p_4 : at0 ≤ le) (p_5 : op0 = 0) (p_6 : nd ≤ 2 * at0 - tz tk0 + 30) (p_7 : sy ≤ na + 2) (p_8 : vi ≤ sy) (p_9 : sb = sy) (p_10 : 1 ≤ tk0) : wk X dd 302 [.ref 66, .int (i32 lv)] (rV c0 c1 G A T) (fun o V' => ∃ (G' : Nat → Int) (A' : Nat → Nat → Int) (r : Int) (ln2 : Int) (at2 : Int) (fk2 : Int) (nd2 : Int) (sy2 : Int) (na2 : Int) (vi2 : Int) (lf2 : Int) (ec2 : Int), V' = rV c0 c1 G' A' T ∧ o = .inl (some (.int (i32 r))) ∧ Wk G' A' ∧ Fr [9, 10, 11, 12, 13, 14, 15, 16, 17, 18, 19, 28, 29, 31] [6, 7, 8, 9, 10, 11, 12, 14, 15, 16, 17, 18, 19, 20, 21, 22, 23, 24, 28] G A G' A' ∧ Pf nd A A' ∧ Fx sr (sy) A A' ∧ Fx [14] (vi) A A' ∧ ((-2147483648 : Int) ≤ r ∧ r ≤ 2147483647) ∧ G' 9 = ln2 ∧ G' 10 = at2 ∧ G' 16 = fk2 ∧ G' 31 = nd2 ∧ G' 19 = sy2 ∧ G' 28 = na2 ∧ G' 29 = vi2 ∧ A' 3 (ln2).toNat = lf2 ∧ ecn A' (G' 31) = ec2 ∧ (at0 ≤ at2) ∧ (nd ≤ nd2) ∧ (sy ≤ sy2) ∧ (sy2 ≤ na2 + 2) ∧ (vi ≤ vi2) ∧ (vi2 ≤ vi + 1) ∧ (0 ≤ r) ∧ (r ≤ 6999) ∧ (ln ≤ ln2) ∧ (ln2 ≤ li) ∧ (((1 ≤ fk2) ∧ (nd2 - nd ≤ 2 * at2 - (2 * at0 - tz tk0) + 14)) ∨ ((fk2 = 0) ∧ (vi2 = vi) ∧ (ln < ln2) ∧ (nd2 - nd ≤ 2 * at2 - (2 * at0 - tz tk0)) ∧ (at2 < lf2 ∨ li ≤ ln2) ∧ (nd ≤ r) ∧ (r < nd2) ∧ (wSt A' (sy2) pb (wP A' (sy2) pb (k)) (Vs) (r) (nd) (nd2) (sy) (sy2)) ∧ (NX A' (r)) ∧ (nd2 - nd + 5 * (ec2 - ec) ≤ 2 * at2 - (2 * at0 - tz tk0))))) := by
  obtain ⟨d, rfl⟩ : ∃ d, dd = d + 1 := ⟨dd - 1, by omega⟩
  refine wk_of (e := jm302) rfl (Nat.le_of_ble_eq_true rfl) ?_
  show wj X d jm302 (0, [(0, .ref 66), (1, .int (i32 (lv)))], [], rV c0 c1 G A T) _
  have hF0 : Fr [9, 10, 11, 12, 13, 14, 15, 16, 17, 18, 19, 28, 29, 31] [6, 7, 8, 9, 10, 11, 12, 14, 15, 16, 17, 18, 19, 20, 21, 22, 23, 24, 28] G A G A := Fr_rf
  have hP0 : Pf nd A A := Pf_rf
  have hS0 : Fx sr (sy) A A := Fx_rf
  have hV0 : Fx [14] (vi) A A := Fx_rf
  have b_ln : (0 : Int) ≤ ln ∧ ln ≤ 3000 := e_ln ▸ hW.1 9
  have b_li : (0 : Int) ≤ li ∧ li ≤ 3000 := e_li ▸ hW.1 3
  have b_at0 : (0 : Int) ≤ at0 ∧ at0 ≤ 3002 := e_at0 ▸ hW.1 10
  have b_fk : (0 : Int) ≤ fk ∧ fk ≤ 6 := e_fk ▸ hW.1 16
  have b_nd : (0 : Int) ≤ nd ∧ nd ≤ 6999 := e_nd ▸ hW.1 31
  have b_sy : (0 : Int) ≤ sy ∧ sy ≤ 202 := e_sy ▸ hW.1 19
  have b_na : (0 : Int) ≤ na ∧ na ≤ 200 := e_na ▸ hW.1 28
  have b_vi : (0 : Int) ≤ vi ∧ vi ≤ 202 := e_vi ▸ hW.1 29
  have b_le : (0 : Int) ≤ le ∧ le ≤ 3000 := e_le ▸ hW.2 4 _
  have b_op0 : (-2147483648 : Int) ≤ op0 ∧ op0 ≤ 2147483647 := e_op0 ▸ hW.1 15
  have z_tk0 := tz_f tk0
  have b_tk0 : (0 : Int) ≤ tk0 ∧ tk0 ≤ 5 := e_tk0 ▸ hW.1 11
  refine jx_ld (pc' := 1) (l' := [(0, .ref 66), (1, .int (i32 (lv)))]) (st' := [.ref 66]) rfl (jl_aloadn rfl) ?_
  refine jx_ar (pc' := 3) (st' := [.int (i32 (32)), .ref 66]) rfl rfl rfl rfl ?_
  refine jx_ar (pc' := 4) (st' := [.int (i32 (0)), .int (i32 (32)), .ref 66]) rfl rfl rfl rfl ?_
  refine jx_ar (pc' := 5) (st' := [.int (i32 (0)), .int (i32 (0)), .int (i32 (32)), .ref 66]) rfl rfl rfl rfl ?_
  refine jx_ar (pc' := 6) (st' := [.int (i32 (0)), .int (i32 (0)), .int (i32 (0)), .int (i32 (32)), .ref 66]) rfl rfl rfl rfl ?_
  refine jx_ar (pc' := 7) (st' := [.int (i32 (0)), .int (i32 (0)), .int (i32 (0)), .int (i32 (0)), .int (i32 (32)), .ref 66]) rfl rfl rfl rfl ?_
  refine jx_vr (pc' := 10) (as := [.int (i32 (32)), .int (i32 (0)), .int (i32 (0)), .int (i32 (0)), .int (i32 (0))]) (st := []) rfl rfl rfl rfl ⟨rfl, rfl, Nat.le_of_ble_eq_true rfl⟩ rfl rfl (c_node_o (dd := d) (hd := by omega) (hW := hW) (kind := 32) (a := 0) (b := 0) (c := 0) (e := 0) (nd := nd) (e_nd := show G 31 = nd from (e_nd)) (ec := ec) (e_ec := show ecn A (G 31) = ec from e_ec)  (h_kind := ⟨(by decide), (by decide)⟩) (h_a := ⟨(by decide), (by decide)⟩) (h_b := ⟨(by decide), (by decide)⟩) (h_c := ⟨(by decide), (by decide)⟩) (h_e := ⟨(by decide), (by decide)⟩)  (p_0 := by omega) (p_1 := by omega) (p_2 := by omega)) (fun o V' hq => ?_)
  obtain ⟨G325, A326, nd2_327, ec2_328, rfl, rfl, hW329, hF330, hQ331, e332, e333, p334, p335, p336, -⟩ := hq
  have hF338 := Fr_tr hF0 hF330 (Fr_sub (by decide)) (Fr_sub (by decide))
  have hP339 := Pf_tr hP0 hQ331 (by omega)
  have hS340 := Fx_f hS0 hF330 (by decide)
  have hV341 := Fx_f hV0 hF330 (by decide)
  have bnd2_327 : (0 : Int) ≤ nd2_327 ∧ nd2_327 ≤ 6999 := e332 ▸ hW329.1 31
  refine .inr ⟨_, rfl, ?_⟩
  refine jx_ld (pc' := 11) (l' := jSto1 [(0, .ref 66), (1, .int (i32 (lv)))] 2 (.int (i32 (nd)))) (st' := []) rfl rfl ?_
  obtain ⟨L342, eL342⟩ : ∃ q, q = jSto1 [(0, .ref 66), (1, .int (i32 (lv)))] 2 (.int (i32 (nd))) := ⟨_, rfl⟩
  rw [← eL342]
  have gL342_0 : jGet L342 0 = some (.ref 66) := eL342 ▸ jg_ne (by decide) (rfl : jGet [(0, .ref 66), (1, .int (i32 (lv)))] 0 = some (.ref 66)) rfl
  have gL342_1 : jGet L342 1 = some (.int (i32 (lv))) := eL342 ▸ jg_ne (by decide) (rfl : jGet [(0, .ref 66), (1, .int (i32 (lv)))] 1 = some (.int (i32 (lv)))) rfl
  have gL342_2 : jGet L342 2 = some (.int (i32 (nd))) := eL342 ▸ jg_eq
  refine jx_ld (pc' := 12) (l' := L342) (st' := [.ref 66]) rfl (jl_aloadn gL342_0) ?_
  refine jx_vr (pc' := 15) (as := []) (st := []) rfl rfl rfl rfl ⟨rfl, rfl, Nat.le_of_ble_eq_true rfl⟩ rfl rfl (c_next (dd := d) (hd := by omega) (hW := hW329)  (ln := ln) (e_ln := show G325 9 = ln from ((hF330.1 9 rfl).trans (e_ln))) (le := le) (e_le := show A326 4 (ln).toNat = le from (congrFun (hF330.2 4 rfl) _).trans (e_le)) (at0 := at0) (e_at0 := show G325 10 = at0 from ((hF330.1 10 rfl).trans (e_at0)))    (p_0 := by omega)) (fun o V' hq => ?_)
  obtain ⟨G343, A344, at2_345, tk2_346, rfl, rfl, hW347, hF348, e349, e350, p351, p352, p353, -⟩ := hq
  have hF355 := Fr_tr hF338 hF348 (Fr_sub (by decide)) (Fr_sub (by decide))
  have hP356 := Pf_f hP339 hF348 (by decide)
  have hS357 := Fx_f hS340 hF348 (by decide)
  have hV358 := Fx_f hV341 hF348 (by decide)
  have sf359 : ND A344 (nd) (32) (0) (0) (0) (0) (0) (0) := ND_ag (by omega) (Ag_fr hF348 (by decide)) p336
  have ec360 : ecn A344 (G343 31) = ec2_328 := (ecn_f (hF348.2 15 rfl) (hF348.1 31 rfl)).trans e333
  have bat2_345 : (0 : Int) ≤ at2_345 ∧ at2_345 ≤ 3002 := e349 ▸ hW347.1 10
  have ztk2_346 := tz_b tk2_346
  have btk2_346 : (0 : Int) ≤ tk2_346 ∧ tk2_346 ≤ 5 := e350 ▸ hW347.1 11
  refine .inl ⟨rfl, ?_⟩
  have pz361 : at0 + tz tk2_346 ≤ at2_345 := by omega
  refine jx_ld (pc' := 16) (l' := L342) (st' := [.ref 66]) rfl (jl_aloadn gL342_0) ?_
  refine jx_vr (pc' := 19) (as := []) (st := []) rfl rfl rfl rfl ⟨rfl, rfl, Nat.le_of_ble_eq_true rfl⟩ rfl rfl (c_endLine (dd := d) (hd := by omega) (hW := hW347)  (ln := ln) (e_ln := show G343 9 = ln from ((hF348.1 9 rfl).trans ((hF330.1 9 rfl).trans (e_ln)))) (li := li) (e_li := show G343 3 = li from ((hF348.1 3 rfl).trans ((hF330.1 3 rfl).trans (e_li)))) (fk := fk) (e_fk := show G343 16 = fk from ((hF348.1 16 rfl).trans ((hF330.1 16 rfl).trans (e_fk)))) (tk0 := tk2_346) (e_tk0 := show G343 11 = tk2_346 from (e350))    (p_0 := by omega)) (fun o V' hq => ?_)
  obtain ⟨G362, A363, ln2_364, fk2_365, rfl, rfl, hW366, hF367, e368, e369, q370⟩ := hq
  have hF371 := Fr_tr hF355 hF367 (Fr_sub (by decide)) (Fr_sub (by decide))
  have hP372 := Pf_f hP356 hF367 (by decide)
  have hS373 := Fx_f hS357 hF367 (by decide)
  have hV374 := Fx_f hV358 hF367 (by decide)
  have sf375 : ND A363 (nd) (32) (0) (0) (0) (0) (0) (0) := ND_ag (by omega) (Ag_fr hF367 (by decide)) sf359
  have ec376 : ecn A363 (G362 31) = ec2_328 := (ecn_f (hF367.2 15 rfl) (hF367.1 31 rfl)).trans ec360
  have bln2_364 : (0 : Int) ≤ ln2_364 ∧ ln2_364 ≤ 3000 := e368 ▸ hW366.1 9
  have bfk2_365 : (0 : Int) ≤ fk2_365 ∧ fk2_365 ≤ 6 := e369 ▸ hW366.1 16
  refine .inl ⟨rfl, ?_⟩
  rcases q370 with ⟨a377, a378, a379, a380, a381⟩ | ⟨a382, a383⟩
  · have _q : True := trivial
    have b384 : (0 : Int) ≤ A 3 (ln2_364).toNat ∧ A 3 (ln2_364).toNat ≤ 3000 := hW.2 3 _
    have lt385 : ln2_364 < li → le < A 3 (ln2_364).toNat := fun hh => LT_nx (LT_ext (((hF367.1 3 rfl).trans ((hF348.1 3 rfl).trans (hF330.1 3 rfl)))) (((hF367.2 3 rfl).trans ((hF348.2 3 rfl).trans (hF330.2 3 rfl)))) (((hF367.2 4 rfl).trans ((hF348.2 4 rfl).trans (hF330.2 4 rfl)))) i_LT) (show G362 3 = li from ((hF367.1 3 rfl).trans ((hF348.1 3 rfl).trans ((hF330.1 3 rfl).trans (e_li))))) (show A363 4 (ln).toNat = le from (congrFun ((hF367.2 4 rfl).trans ((hF348.2 4 rfl).trans (hF330.2 4 rfl))) _).trans (e_le)) (show A363 3 (ln2_364).toNat = A 3 (ln2_364).toNat from (congrFun ((hF367.2 3 rfl).trans ((hF348.2 3 rfl).trans (hF330.2 3 rfl))) _)) (show ln2_364 = ln + 1 by omega) (by omega) hh
    refine jx_ar (pc' := 20) (st' := [.int (i32 (0))]) rfl rfl rfl rfl ?_
    refine jx_ld (pc' := 21) (l' := jSto1 L342 3 (.int (i32 (0)))) (st' := []) rfl rfl ?_
    obtain ⟨L386, eL386⟩ : ∃ q, q = jSto1 L342 3 (.int (i32 (0))) := ⟨_, rfl⟩
    rw [← eL386]
    have gL386_0 : jGet L386 0 = some (.ref 66) := eL386 ▸ jg_ne (by decide) gL342_0 rfl
    have gL386_1 : jGet L386 1 = some (.int (i32 (lv))) := eL386 ▸ jg_ne (by decide) gL342_1 rfl
    have gL386_2 : jGet L386 2 = some (.int (i32 (nd))) := eL386 ▸ jg_ne (by decide) gL342_2 rfl
    have gL386_3 : jGet L386 3 = some (.int (i32 (0))) := eL386 ▸ jg_eq
    refine jx_ar (pc' := 22) (st' := [.int (i32 (0))]) rfl rfl rfl rfl ?_
    refine jx_ld (pc' := 24) (l' := jSto1 L386 4 (.int (i32 (0)))) (st' := []) rfl rfl ?_
    obtain ⟨L387, eL387⟩ : ∃ q, q = jSto1 L386 4 (.int (i32 (0))) := ⟨_, rfl⟩
    rw [← eL387]
    have gL387_0 : jGet L387 0 = some (.ref 66) := eL387 ▸ jg_ne (by decide) gL386_0 rfl
    have gL387_1 : jGet L387 1 = some (.int (i32 (lv))) := eL387 ▸ jg_ne (by decide) gL386_1 rfl
    have gL387_2 : jGet L387 2 = some (.int (i32 (nd))) := eL387 ▸ jg_ne (by decide) gL386_2 rfl
    have gL387_3 : jGet L387 3 = some (.int (i32 (0))) := eL387 ▸ jg_ne (by decide) gL386_3 rfl
    have gL387_4 : jGet L387 4 = some (.int (i32 (0))) := eL387 ▸ jg_eq
    exact c_readAlt_w_at_24 (X := X) (k := k) (hP := hP) (d := d) (Vs := Vs) (sb := sb) (pb := pb) (hvb := hvb) (c0 := c0) (c1 := c1) (G := G) (A := A) (T := T) (lv := lv) (ln := ln) (li := li) (at0 := at0) (fk := fk) (nd := nd) (sy := sy) (na := na) (vi := vi) (le := le) (op0 := op0) (tk0 := tk0) (ec := ec) (hd := hd) (hW := hW) (e_ln := e_ln) (e_li := e_li) (e_at0 := e_at0) (e_fk := e_fk) (e_nd := e_nd) (e_sy := e_sy) (e_na := e_na) (e_vi := e_vi) (e_le := e_le) (e_op0 := e_op0) (e_tk0 := e_tk0) (e_ec := e_ec) (i_LT := i_LT) (i_SV := i_SV) (i_PQ := i_PQ) (h_lv := h_lv) (p_0 := p_0) (p_1 := p_1) (p_2 := p_2) (p_3 := p_3) (p_4 := p_4) (p_5 := p_5) (p_6 := p_6) (p_7 := p_7) (p_8 := p_8) (p_9 := p_9) (p_10 := p_10) _ L387 G362 A363 (nd) (0) (0) (ln2_364) (at2_345) (fk2_365) (nd2_327) (sy) (na) (vi) (A 3 (ln2_364).toNat) (ec2_328) rfl gL387_0 gL387_1 gL387_2 gL387_3 gL387_4 hW366 hF371 hP372 hS373 hV374 ((e368)) (((hF367.1 10 rfl).trans (e349))) ((e369)) (((hF367.1 31 rfl).trans ((hF348.1 31 rfl).trans (e332)))) (((hF367.1 19 rfl).trans ((hF348.1 19 rfl).trans ((hF330.1 19 rfl).trans (e_sy))))) (((hF367.1 28 rfl).trans ((hF348.1 28 rfl).trans ((hF330.1 28 rfl).trans (e_na))))) (((hF367.1 29 rfl).trans ((hF348.1 29 rfl).trans ((hF330.1 29 rfl).trans (e_vi))))) ((congrFun ((hF367.2 3 rfl).trans ((hF348.2 3 rfl).trans (hF330.2 3 rfl))) _)) (ec376) (by omega) (by omega) (by omega) (by omega) (by omega) (by omega) (by omega) (by omega) (by omega) (by omega) (by omega) (by omega) (by omega) (by omega) (by omega) (by omega) (by omega) (by omega) ((ND_sf sf375)) ((CL_eq (CL_nil (lo := nd + 1) (s0 := sy) (ND_f0 sf375)) (by omega) (by omega) (by omega) (by omega) (by omega) (by omega))) (by omega)
  · have _q : True := trivial
    refine jx_ar (pc' := 20) (st' := [.int (i32 (0))]) rfl rfl rfl rfl ?_
    refine jx_ld (pc' := 21) (l' := jSto1 L342 3 (.int (i32 (0)))) (st' := []) rfl rfl ?_
    obtain ⟨L388, eL388⟩ : ∃ q, q = jSto1 L342 3 (.int (i32 (0))) := ⟨_, rfl⟩
    rw [← eL388]
    have gL388_0 : jGet L388 0 = some (.ref 66) := eL388 ▸ jg_ne (by decide) gL342_0 rfl
    have gL388_1 : jGet L388 1 = some (.int (i32 (lv))) := eL388 ▸ jg_ne (by decide) gL342_1 rfl
    have gL388_2 : jGet L388 2 = some (.int (i32 (nd))) := eL388 ▸ jg_ne (by decide) gL342_2 rfl
    have gL388_3 : jGet L388 3 = some (.int (i32 (0))) := eL388 ▸ jg_eq
    refine jx_ar (pc' := 22) (st' := [.int (i32 (0))]) rfl rfl rfl rfl ?_
    refine jx_ld (pc' := 24) (l' := jSto1 L388 4 (.int (i32 (0)))) (st' := []) rfl rfl ?_
    obtain ⟨L389, eL389⟩ : ∃ q, q = jSto1 L388 4 (.int (i32 (0))) := ⟨_, rfl⟩
    rw [← eL389]
    have gL389_0 : jGet L389 0 = some (.ref 66) := eL389 ▸ jg_ne (by decide) gL388_0 rfl
    have gL389_1 : jGet L389 1 = some (.int (i32 (lv))) := eL389 ▸ jg_ne (by decide) gL388_1 rfl
    have gL389_2 : jGet L389 2 = some (.int (i32 (nd))) := eL389 ▸ jg_ne (by decide) gL388_2 rfl
    have gL389_3 : jGet L389 3 = some (.int (i32 (0))) := eL389 ▸ jg_ne (by decide) gL388_3 rfl
    have gL389_4 : jGet L389 4 = some (.int (i32 (0))) := eL389 ▸ jg_eq
    refine jx_ld (pc' := 25) (l' := L389) (st' := [.ref 66]) rfl (jl_aloadn gL389_0) ?_
    refine jx_ld (pc' := 26) (l' := L389) (st' := [.int (i32 (lv)), .ref 66]) rfl (jl_iloadn gL389_1) ?_
    have b390 : (-1 : Int) ≤ A 5 (ln2_364).toNat ∧ A 5 (ln2_364).toNat ≤ 15 := hW.2 5 _
    refine jx_vr (pc' := 29) (as := [.int (i32 (lv))]) (st := []) rfl rfl rfl rfl ⟨rfl, rfl, Nat.le_of_ble_eq_true rfl⟩ rfl rfl (c_isBelow (dd := d) (hd := by omega) (hW := hW366) (lv := lv) (ln := ln2_364) (e_ln := show G362 9 = ln2_364 from (e368)) (li := li) (e_li := show G362 3 = li from ((hF367.1 3 rfl).trans ((hF348.1 3 rfl).trans ((hF330.1 3 rfl).trans (e_li))))) (fk := fk2_365) (e_fk := show G362 16 = fk2_365 from (e369)) (ll := A 5 (ln2_364).toNat) (e_ll := show A363 5 (ln2_364).toNat = A 5 (ln2_364).toNat from (congrFun ((hF367.2 5 rfl).trans ((hF348.2 5 rfl).trans (hF330.2 5 rfl))) _))  (h_lv := ⟨(Int.le_trans (by decide : (-2147483648 : Int) ≤ -2147483648) h_lv.1), (Int.le_trans h_lv.2 (by decide : (2147483647 : Int) ≤ 2147483647))⟩)  (p_0 := by omega)) (fun o V' hq => ?_)
    obtain ⟨G391, A392, r393, fk2_394, rfl, rfl, hW395, hF396, b397, e398, q399⟩ := hq
    have hF400 := Fr_tr hF371 hF396 (Fr_sub (by decide)) (Fr_sub (by decide))
    have hP401 := Pf_f hP372 hF396 (by decide)
    have hS402 := Fx_f hS373 hF396 (by decide)
    have hV403 := Fx_f hV374 hF396 (by decide)
    have sf404 : ND A392 (nd) (32) (0) (0) (0) (0) (0) (0) := ND_ag (by omega) (Ag_fr hF396 (by decide)) sf375
    have ec405 : ecn A392 (G391 31) = ec2_328 := (ecn_f (hF396.2 15 rfl) (hF396.1 31 rfl)).trans ec376
    have bfk2_394 : (0 : Int) ≤ fk2_394 ∧ fk2_394 ≤ 6 := e398 ▸ hW395.1 16
    refine .inr ⟨_, rfl, ?_⟩
    rcases q399 with ⟨rfl, a406, a407, a408, a409⟩ | ⟨rfl, a410⟩ | ⟨rfl, a411, a412, a413⟩
    · have _q : True := trivial
      exfalso
      omega
    · have _q : True := trivial
      refine jx_if_eq (pc' := 32) (tg := 130) rfl rfl rfl (by decide) (by decide) (fun h414 => ?_) (fun h414 => ?_)
      · have _q := h414
        refine jx_ld (pc' := 131) (l' := L389) (st' := [.ref 66]) rfl (jl_aloadn gL389_0) ?_
        refine jx_vr (pc' := 134) (as := []) (st := []) rfl rfl rfl rfl ⟨rfl, rfl, Nat.le_of_ble_eq_true rfl⟩ rfl rfl (c_bad (dd := d) (hd := by omega) (hW := hW395)  (fk := fk2_394) (e_fk := show G391 16 = fk2_394 from (e398))    ) (fun o V' hq => ?_)
        obtain ⟨r415, rfl, rfl, b416, q417⟩ := hq
        refine .inr ⟨_, rfl, ?_⟩
        rcases q417 with ⟨rfl, a418⟩ | ⟨rfl, a419⟩
        · have _q : True := trivial
          refine jx_if_ne (pc' := 137) (tg := 150) rfl rfl rfl (by decide) (by decide) (fun h420 => ?_) (fun h420 => ?_)
          · have _q := h420
            refine jx_ld (pc' := 151) (l' := L389) (st' := [.ref 66]) rfl (jl_aloadn gL389_0) ?_
            refine jr_get (pc' := 154) (i := 35) (v := .ref 85) rfl rfl (by decide) rfl rfl ?_
            refine jx_ld (pc' := 155) (l' := L389) (st' := [.int (i32 (nd)), .ref 85]) rfl (jl_iloadn gL389_2) ?_
            refine jx_ld (pc' := 157) (l' := L389) (st' := [.int (i32 (0)), .int (i32 (nd)), .ref 85]) rfl (jl_iload gL389_4) ?_
            refine jr_st (pc' := 158) (i := 18) (m := 7000) (z := nd) (y := 0) rfl (by decide) rfl (by decide) (by omega) (by omega) rfl ?_
            have hW422 : Wk G391 (uA A392 18 (nd).toNat (0)) := Wk_a hW395 (show (-2147483648 : Int) ≤ 0 by omega) (show 0 ≤ (2147483647 : Int) by omega)
            have hF423 := Fr_a (z := 0) (k := 18) (n := (nd).toNat) hF400 (by decide)
            obtain ⟨A421, eA421⟩ : ∃ q, q = uA A392 18 (nd).toNat (0) := ⟨_, rfl⟩
            rw [← eA421]
            rw [← eA421] at hW422 hF423
            have q424 : A421 18 (nd).toNat = 0 := by rw [eA421]; exact uA_eq
            have hP425 : Pf nd A A421 := eA421 ▸ Pf_a hP401 (z := nd) (by omega) (by omega)
            have hS426 : Fx sr (sy) A A421 := eA421 ▸ Fx_n hS402 rfl
            have hV427 : Fx [14] (vi) A A421 := eA421 ▸ Fx_n hV403 rfl
            have sf428 : ND A421 (nd) (32) (0) (0) (0) (0) (0) (0) := ND_b eA421 sf404
            have ec429 : ecn A421 (G391 31) = ec2_328 := (ecn_e ((congrFun eA421 15).trans (uA_ne (by decide)))).trans ec405
            refine jx_ld (pc' := 159) (l' := L389) (st' := [.int (i32 (nd))]) rfl (jl_iloadn gL389_2) ?_
            refine jx_rt (v := some (.int (i32 (nd)))) rfl rfl rfl rfl rfl rfl ?_
            exact ⟨_, _, _, ln2_364, at2_345, fk2_394, nd2_327, sy, na, vi, A 3 (ln2_364).toNat, ec2_328, rfl, rfl, hW422, hF423, hP425, hS426, hV427, by omega, ((hF396.1 9 rfl).trans (e368)), ((hF396.1 10 rfl).trans ((hF367.1 10 rfl).trans (e349))), (e398), ((hF396.1 31 rfl).trans ((hF367.1 31 rfl).trans ((hF348.1 31 rfl).trans (e332)))), ((hF396.1 19 rfl).trans ((hF367.1 19 rfl).trans ((hF348.1 19 rfl).trans ((hF330.1 19 rfl).trans (e_sy))))), ((hF396.1 28 rfl).trans ((hF367.1 28 rfl).trans ((hF348.1 28 rfl).trans ((hF330.1 28 rfl).trans (e_na))))), ((hF396.1 29 rfl).trans ((hF367.1 29 rfl).trans ((hF348.1 29 rfl).trans ((hF330.1 29 rfl).trans (e_vi))))), (congrFun (((congrFun eA421 3).trans (uA_ne (by decide))).trans ((hF396.2 3 rfl).trans ((hF367.2 3 rfl).trans ((hF348.2 3 rfl).trans (hF330.2 3 rfl))))) _), ec429, by omega, by omega, by omega, by omega, by omega, by omega, by omega, by omega, by omega, by omega, by first | exact Or.inl (⟨by omega, by omega⟩)⟩
          · have _q := h420
            exact absurd h420 (by omega)
        · have _q : True := trivial
          exfalso
          omega
      · have _q := h414
        exact absurd h414 (by omega)
    · have _q : True := trivial
      exfalso
      omega
set_option maxRecDepth 20000 in
set_option maxHeartbeats 4000000 in
theorem c_readStatement_w {X : jX} {k : Nat} (hP : RPw X k) {dd : Nat} {Vs : Nat → Prop} {sb pb : Int} (hvb : VB Vs sb) {c0 c1 : jC} {G : Nat → Int} {A : Nat → Nat → Int} {T : jH} {lv : Int} {ln li at0 fk nd sy na vi le op0 tk0 ec : Int} (hd : 8 * k + 83 ≤ dd) (hW : Wk G A) (e_ln : G 9 = ln) (e_li : G 3 = li) (e_at0 : G 10 = at0) (e_fk : G 16 = fk) (e_nd : G 31 = nd) (e_sy : G 19 = sy) (e_na : G 28 = na) (e_vi : G 29 = vi) (e_le : A 4 (ln).toNat = le) (e_op0 : G 15 = op0) (e_tk0 : G 11 = tk0) (e_ec : ecn A (G 31) = ec) (i_LT : LT G A) (i_SV : SV Vs sb G A) (i_PQ : PQ Vs sb pb G A) (h_lv : (-2147483648 : Int) ≤ lv ∧ lv ≤ 2147483647) (p_0 : 0 ≤ lv ∧ lv ≤ 15) (p_1 : 18 - lv ≤ ((k + 1 : Nat) : Int)) (p_2 : fk = 0) (p_3 : ln < li) (p_4 : at0 ≤ le) (p_5 : op0 = 0) (p_6 : nd ≤ 2 * at0 - tz tk0 + 30) (p_7 : sy ≤ na + 2) (p_8 : vi ≤ sy) (p_9 : sb = sy) : wk X dd 295 [.ref 66, .int (i32 lv)] (rV c0 c1 G A T) (fun o V' => ∃ (G' : Nat → Int) (A' : Nat → Nat → Int) (r : Int) (ln2 : Int) (at2 : Int) (fk2 : Int) (nd2 : Int) (sy2 : Int) (na2 : Int) (vi2 : Int) (lf2 : Int) (ec2 : Int), V' = rV c0 c1 G' A' T ∧ o = .inl (some (.int (i32 r))) ∧ Wk G' A' ∧ Fr [9, 10, 11, 12, 13, 14, 15, 16, 17, 18, 19, 28, 29, 31] [6, 7, 8, 9, 10, 11, 12, 14, 15, 16, 17, 18, 19, 20, 21, 22, 23, 24, 28] G A G' A' ∧ Pf nd A A' ∧ Fx sr (sy) A A' ∧ Fx [14] (vi) A A' ∧ ((-2147483648 : Int) ≤ r ∧ r ≤ 2147483647) ∧ G' 9 = ln2 ∧ G' 10 = at2 ∧ G' 16 = fk2 ∧ G' 31 = nd2 ∧ G' 19 = sy2 ∧ G' 28 = na2 ∧ G' 29 = vi2 ∧ A' 3 (ln2).toNat = lf2 ∧ ecn A' (G' 31) = ec2 ∧ (at0 ≤ at2) ∧ (nd ≤ nd2) ∧ (sy ≤ sy2) ∧ (sy2 ≤ na2 + 2) ∧ (vi ≤ vi2) ∧ (vi2 ≤ vi + 1) ∧ (0 ≤ r) ∧ (r ≤ 6999) ∧ (ln ≤ ln2) ∧ (ln2 ≤ li) ∧ (((1 ≤ fk2) ∧ (nd2 - nd ≤ 2 * at2 - (2 * at0 - tz tk0) + 14)) ∨ ((fk2 = 0) ∧ (vi2 = vi) ∧ (ln < ln2) ∧ (nd2 - nd ≤ 2 * at2 - (2 * at0 - tz tk0)) ∧ (at2 < lf2 ∨ li ≤ ln2) ∧ (nd ≤ r) ∧ (r < nd2) ∧ (wSt A' (sy2) pb (wP A' (sy2) pb (k)) (Vs) (r) (nd) (nd2) (sy) (sy2)) ∧ (NX A' (r)) ∧ (nd2 - nd + 5 * (ec2 - ec) ≤ 2 * at2 - (2 * at0 - tz tk0))))) := by
  obtain ⟨d, rfl⟩ : ∃ d, dd = d + 1 := ⟨dd - 1, by omega⟩
  refine wk_of (e := jm295) rfl (Nat.le_of_ble_eq_true rfl) ?_
  show wj X d jm295 (0, [(0, .ref 66), (1, .int (i32 (lv)))], [], rV c0 c1 G A T) _
  have hF0 : Fr [9, 10, 11, 12, 13, 14, 15, 16, 17, 18, 19, 28, 29, 31] [6, 7, 8, 9, 10, 11, 12, 14, 15, 16, 17, 18, 19, 20, 21, 22, 23, 24, 28] G A G A := Fr_rf
  have hP0 : Pf nd A A := Pf_rf
  have hS0 : Fx sr (sy) A A := Fx_rf
  have hV0 : Fx [14] (vi) A A := Fx_rf
  have b_ln : (0 : Int) ≤ ln ∧ ln ≤ 3000 := e_ln ▸ hW.1 9
  have b_li : (0 : Int) ≤ li ∧ li ≤ 3000 := e_li ▸ hW.1 3
  have b_at0 : (0 : Int) ≤ at0 ∧ at0 ≤ 3002 := e_at0 ▸ hW.1 10
  have b_fk : (0 : Int) ≤ fk ∧ fk ≤ 6 := e_fk ▸ hW.1 16
  have b_nd : (0 : Int) ≤ nd ∧ nd ≤ 6999 := e_nd ▸ hW.1 31
  have b_sy : (0 : Int) ≤ sy ∧ sy ≤ 202 := e_sy ▸ hW.1 19
  have b_na : (0 : Int) ≤ na ∧ na ≤ 200 := e_na ▸ hW.1 28
  have b_vi : (0 : Int) ≤ vi ∧ vi ≤ 202 := e_vi ▸ hW.1 29
  have b_le : (0 : Int) ≤ le ∧ le ≤ 3000 := e_le ▸ hW.2 4 _
  have b_op0 : (-2147483648 : Int) ≤ op0 ∧ op0 ≤ 2147483647 := e_op0 ▸ hW.1 15
  have z_tk0 := tz_f tk0
  have b_tk0 : (0 : Int) ≤ tk0 ∧ tk0 ≤ 5 := e_tk0 ▸ hW.1 11
  refine jx_ar (pc' := 1) (st' := [.int (i32 (0))]) rfl rfl rfl rfl ?_
  refine jx_ld (pc' := 2) (l' := jSto1 [(0, .ref 66), (1, .int (i32 (lv)))] 2 (.int (i32 (0)))) (st' := []) rfl rfl ?_
  obtain ⟨L1, eL1⟩ : ∃ q, q = jSto1 [(0, .ref 66), (1, .int (i32 (lv)))] 2 (.int (i32 (0))) := ⟨_, rfl⟩
  rw [← eL1]
  have gL1_0 : jGet L1 0 = some (.ref 66) := eL1 ▸ jg_ne (by decide) (rfl : jGet [(0, .ref 66), (1, .int (i32 (lv)))] 0 = some (.ref 66)) rfl
  have gL1_1 : jGet L1 1 = some (.int (i32 (lv))) := eL1 ▸ jg_ne (by decide) (rfl : jGet [(0, .ref 66), (1, .int (i32 (lv)))] 1 = some (.int (i32 (lv)))) rfl
  have gL1_2 : jGet L1 2 = some (.int (i32 (0))) := eL1 ▸ jg_eq
  refine jx_ld (pc' := 3) (l' := L1) (st' := [.ref 66]) rfl (jl_aloadn gL1_0) ?_
  have z2 := tz_f (tk0)
  refine jr_get (pc' := 6) (i := 11) (v := .int (i32 (tk0))) rfl rfl (by decide) (rFv_eq (by decide) (show G 11 = tk0 from (e_tk0))) rfl ?_
  refine jx_ar (pc' := 7) (st' := [.int (i32 (1)), .int (i32 (tk0))]) rfl rfl rfl rfl ?_
  refine jx_icmp_ne (pc' := 10) (tg := 15) rfl rfl rfl (Int.le_trans (by decide : (-2147483648 : Int) ≤ 0) b_tk0.1) (Int.le_trans b_tk0.2 (by decide : (5 : Int) ≤ 2147483647)) (by decide) (by decide) (fun h3 => ?_) (fun h3 => ?_)
  · have _q := h3
    refine jx_ld (pc' := 16) (l' := L1) (st' := [.ref 66]) rfl (jl_aloadn gL1_0) ?_
    have z4 := tz_f (tk0)
    refine jr_get (pc' := 19) (i := 11) (v := .int (i32 (tk0))) rfl rfl (by decide) (rFv_eq (by decide) (show G 11 = tk0 from (e_tk0))) rfl ?_
    refine jx_ar (pc' := 20) (st' := [.int (i32 (2)), .int (i32 (tk0))]) rfl rfl rfl rfl ?_
    refine jx_icmp_eq (pc' := 23) (tg := 34) rfl rfl rfl (Int.le_trans (by decide : (-2147483648 : Int) ≤ 0) b_tk0.1) (Int.le_trans b_tk0.2 (by decide : (5 : Int) ≤ 2147483647)) (by decide) (by decide) (fun h5 => ?_) (fun h5 => ?_)
    · have _q := h5
      refine jx_ld (pc' := 35) (l' := L1) (st' := [.ref 66]) rfl (jl_aloadn gL1_0) ?_
      have b6 : (-2147483648 : Int) ≤ G 13 ∧ G 13 ≤ 2147483647 := hW.1 13
      refine jr_get (pc' := 38) (i := 13) (v := .int (i32 (G 13))) rfl rfl (by decide) rfl rfl ?_
      refine jx_ld (pc' := 39) (l' := jSto1 L1 3 (.int (i32 (G 13)))) (st' := []) rfl rfl ?_
      obtain ⟨L7, eL7⟩ : ∃ q, q = jSto1 L1 3 (.int (i32 (G 13))) := ⟨_, rfl⟩
      rw [← eL7]
      have gL7_0 : jGet L7 0 = some (.ref 66) := eL7 ▸ jg_ne (by decide) gL1_0 rfl
      have gL7_1 : jGet L7 1 = some (.int (i32 (lv))) := eL7 ▸ jg_ne (by decide) gL1_1 rfl
      have gL7_2 : jGet L7 2 = some (.int (i32 (0))) := eL7 ▸ jg_ne (by decide) gL1_2 rfl
      have gL7_3 : jGet L7 3 = some (.int (i32 (G 13))) := eL7 ▸ jg_eq
      refine jx_ld (pc' := 40) (l' := L7) (st' := [.int (i32 (G 13))]) rfl (jl_iloadn gL7_3) ?_
      rcases (by omega : G 13 = 1 ∨ G 13 = 2 ∨ G 13 = 3 ∨ G 13 = 4 ∨ G 13 = 5 ∨ G 13 = 6 ∨ G 13 = 7 ∨ G 13 = 8 ∨ (G 13 < 1 ∨ 8 < G 13)) with h8 | h8 | h8 | h8 | h8 | h8 | h8 | h8 | h8
      · refine jx_swe (z := 1) (tg := 120) h8 rfl rfl rfl rfl ?_
        refine jx_ld (pc' := 121) (l' := L7) (st' := [.ref 66]) rfl (jl_aloadn gL7_0) ?_
        refine jx_ld (pc' := 122) (l' := L7) (st' := [.int (i32 (lv)), .ref 66]) rfl (jl_iloadn gL7_1) ?_
        refine jx_vr (pc' := 125) (as := [.int (i32 (lv))]) (st := []) rfl rfl rfl rfl ⟨rfl, rfl, Nat.le_of_ble_eq_true rfl⟩ rfl rfl (c_readSeq_w (dd := d) (hP := hP) (hd := by omega) (hW := hW) (lv := lv) (ln := ln) (e_ln := show G 9 = ln from (e_ln)) (li := li) (e_li := show G 3 = li from (e_li)) (at0 := at0) (e_at0 := show G 10 = at0 from (e_at0)) (fk := fk) (e_fk := show G 16 = fk from (e_fk)) (nd := nd) (e_nd := show G 31 = nd from (e_nd)) (sy := sy) (e_sy := show G 19 = sy from (e_sy)) (na := na) (e_na := show G 28 = na from (e_na)) (vi := vi) (e_vi := show G 29 = vi from (e_vi)) (le := le) (e_le := show A 4 (ln).toNat = le from (e_le)) (op0 := op0) (e_op0 := show G 15 = op0 from (e_op0)) (tk0 := tk0) (e_tk0 := show G 11 = tk0 from (e_tk0)) (ec := ec) (e_ec := show ecn A (G 31) = ec from e_ec) (i_LT := (LT_ext (rfl) (rfl) (rfl) i_LT)) (i_SV := (SV_fx i_SV e_vi (show G 29 = vi from (e_vi)) (by omega) hV0)) (i_PQ := (PQ_fx i_PQ hS0 (by omega) (hF0.2 29 rfl) (hF0.2 30 rfl))) (hvb := hvb) (h_lv := ⟨(Int.le_trans (by decide : (-2147483648 : Int) ≤ -2147483648) h_lv.1), (Int.le_trans h_lv.2 (by decide : (2147483647 : Int) ≤ 2147483647))⟩)  (p_0 := by omega) (p_1 := by omega) (p_2 := by omega) (p_3 := by omega) (p_4 := by omega) (p_5 := by omega) (p_6 := by omega) (p_7 := by omega) (p_8 := by omega) (p_9 := by omega) (p_10 := by omega)) (fun o V' hq => ?_)
        obtain ⟨G9, A10, r11, ln2_12, at2_13, fk2_14, nd2_15, sy2_16, na2_17, vi2_18, lf2_19, ec2_20, rfl, rfl, hW21, hF22, hQ23, hQ24, hQ25, b26, e27, e28, e29, e30, e31, e32, e33, e34, e35, p36, p37, p38, p39, p40, p41, p42, p43, p44, p45, q46⟩ := hq
        have hF47 := Fr_tr hF0 hF22 (Fr_sub (by decide)) (Fr_sub (by decide))
        have hP48 := Pf_tr hP0 hQ23 (by omega)
        have hS49 := Fx_tr hS0 hQ24 (by omega)
        have hV50 := Fx_tr hV0 hQ25 (by omega)
        have bln2_12 : (0 : Int) ≤ ln2_12 ∧ ln2_12 ≤ 3000 := e27 ▸ hW21.1 9
        have bat2_13 : (0 : Int) ≤ at2_13 ∧ at2_13 ≤ 3002 := e28 ▸ hW21.1 10
        have bfk2_14 : (0 : Int) ≤ fk2_14 ∧ fk2_14 ≤ 6 := e29 ▸ hW21.1 16
        have bnd2_15 : (0 : Int) ≤ nd2_15 ∧ nd2_15 ≤ 6999 := e30 ▸ hW21.1 31
        have bsy2_16 : (0 : Int) ≤ sy2_16 ∧ sy2_16 ≤ 202 := e31 ▸ hW21.1 19
        have bna2_17 : (0 : Int) ≤ na2_17 ∧ na2_17 ≤ 200 := e32 ▸ hW21.1 28
        have bvi2_18 : (0 : Int) ≤ vi2_18 ∧ vi2_18 ≤ 202 := e33 ▸ hW21.1 29
        have blf2_19 : (0 : Int) ≤ lf2_19 ∧ lf2_19 ≤ 3000 := e34 ▸ hW21.2 3 _
        refine .inr ⟨_, rfl, ?_⟩
        rcases q46 with ⟨a51, a52⟩ | ⟨a53, a54, a55, a56, a57, a58, a59, a60, a61, a62⟩
        · have _q : True := trivial
          refine jx_rt (v := some (.int (i32 (r11)))) rfl rfl rfl rfl rfl rfl ?_
          exact ⟨_, _, _, ln2_12, at2_13, fk2_14, nd2_15, sy2_16, na2_17, vi2_18, lf2_19, ec2_20, rfl, rfl, hW21, hF47, hP48, hS49, hV50, by omega, (e27), (e28), (e29), (e30), (e31), (e32), (e33), (e34), e35, by omega, by omega, by omega, by omega, by omega, by omega, by omega, by omega, by omega, by omega, by first | exact Or.inl (⟨by omega, by omega⟩)⟩
        · have _q : True := trivial
          refine jx_rt (v := some (.int (i32 (r11)))) rfl rfl rfl rfl rfl rfl ?_
          exact ⟨_, _, _, ln2_12, at2_13, fk2_14, nd2_15, sy2_16, na2_17, vi2_18, lf2_19, ec2_20, rfl, rfl, hW21, hF47, hP48, hS49, hV50, by omega, (e27), (e28), (e29), (e30), (e31), (e32), (e33), (e34), e35, by omega, by omega, by omega, by omega, by omega, by omega, by omega, by omega, by omega, by omega, by first | exact Or.inr ((⟨by omega, by omega, by omega, by omega, by omega, by omega, by omega, a60, a61, by omega⟩))⟩
      · refine jx_swe (z := 2) (tg := 186) h8 rfl rfl rfl rfl ?_
        refine jx_ld (pc' := 187) (l' := L7) (st' := [.ref 66]) rfl (jl_aloadn gL7_0) ?_
        refine jx_ld (pc' := 188) (l' := L7) (st' := [.int (i32 (lv)), .ref 66]) rfl (jl_iloadn gL7_1) ?_
        refine jx_vr (pc' := 191) (as := [.int (i32 (lv))]) (st := []) rfl rfl rfl rfl ⟨rfl, rfl, Nat.le_of_ble_eq_true rfl⟩ rfl rfl (c_readPar_w (dd := d) (hP := hP) (hd := by omega) (hW := hW) (lv := lv) (ln := ln) (e_ln := show G 9 = ln from (e_ln)) (li := li) (e_li := show G 3 = li from (e_li)) (at0 := at0) (e_at0 := show G 10 = at0 from (e_at0)) (fk := fk) (e_fk := show G 16 = fk from (e_fk)) (nd := nd) (e_nd := show G 31 = nd from (e_nd)) (sy := sy) (e_sy := show G 19 = sy from (e_sy)) (na := na) (e_na := show G 28 = na from (e_na)) (vi := vi) (e_vi := show G 29 = vi from (e_vi)) (le := le) (e_le := show A 4 (ln).toNat = le from (e_le)) (op0 := op0) (e_op0 := show G 15 = op0 from (e_op0)) (tk0 := tk0) (e_tk0 := show G 11 = tk0 from (e_tk0)) (ec := ec) (e_ec := show ecn A (G 31) = ec from e_ec) (i_LT := (LT_ext (rfl) (rfl) (rfl) i_LT)) (i_SV := (SV_fx i_SV e_vi (show G 29 = vi from (e_vi)) (by omega) hV0)) (i_PQ := (PQ_fx i_PQ hS0 (by omega) (hF0.2 29 rfl) (hF0.2 30 rfl))) (hvb := hvb) (h_lv := ⟨(Int.le_trans (by decide : (-2147483648 : Int) ≤ -2147483648) h_lv.1), (Int.le_trans h_lv.2 (by decide : (2147483647 : Int) ≤ 2147483647))⟩)  (p_0 := by omega) (p_1 := by omega) (p_2 := by omega) (p_3 := by omega) (p_4 := by omega) (p_5 := by omega) (p_6 := by omega) (p_7 := by omega) (p_8 := by omega) (p_9 := by omega) (p_10 := by omega)) (fun o V' hq => ?_)
        obtain ⟨G63, A64, r65, ln2_66, at2_67, fk2_68, nd2_69, sy2_70, na2_71, vi2_72, lf2_73, ec2_74, rfl, rfl, hW75, hF76, hQ77, hQ78, hQ79, b80, e81, e82, e83, e84, e85, e86, e87, e88, e89, p90, p91, p92, p93, p94, p95, p96, p97, p98, p99, q100⟩ := hq
        have hF101 := Fr_tr hF0 hF76 (Fr_sub (by decide)) (Fr_sub (by decide))
        have hP102 := Pf_tr hP0 hQ77 (by omega)
        have hS103 := Fx_tr hS0 hQ78 (by omega)
        have hV104 := Fx_tr hV0 hQ79 (by omega)
        have bln2_66 : (0 : Int) ≤ ln2_66 ∧ ln2_66 ≤ 3000 := e81 ▸ hW75.1 9
        have bat2_67 : (0 : Int) ≤ at2_67 ∧ at2_67 ≤ 3002 := e82 ▸ hW75.1 10
        have bfk2_68 : (0 : Int) ≤ fk2_68 ∧ fk2_68 ≤ 6 := e83 ▸ hW75.1 16
        have bnd2_69 : (0 : Int) ≤ nd2_69 ∧ nd2_69 ≤ 6999 := e84 ▸ hW75.1 31
        have bsy2_70 : (0 : Int) ≤ sy2_70 ∧ sy2_70 ≤ 202 := e85 ▸ hW75.1 19
        have bna2_71 : (0 : Int) ≤ na2_71 ∧ na2_71 ≤ 200 := e86 ▸ hW75.1 28
        have bvi2_72 : (0 : Int) ≤ vi2_72 ∧ vi2_72 ≤ 202 := e87 ▸ hW75.1 29
        have blf2_73 : (0 : Int) ≤ lf2_73 ∧ lf2_73 ≤ 3000 := e88 ▸ hW75.2 3 _
        refine .inr ⟨_, rfl, ?_⟩
        rcases q100 with ⟨a105, a106⟩ | ⟨a107, a108, a109, a110, a111, a112, a113, a114, a115, a116⟩
        · have _q : True := trivial
          refine jx_rt (v := some (.int (i32 (r65)))) rfl rfl rfl rfl rfl rfl ?_
          exact ⟨_, _, _, ln2_66, at2_67, fk2_68, nd2_69, sy2_70, na2_71, vi2_72, lf2_73, ec2_74, rfl, rfl, hW75, hF101, hP102, hS103, hV104, by omega, (e81), (e82), (e83), (e84), (e85), (e86), (e87), (e88), e89, by omega, by omega, by omega, by omega, by omega, by omega, by omega, by omega, by omega, by omega, by first | exact Or.inl (⟨by omega, by omega⟩)⟩
        · have _q : True := trivial
          refine jx_rt (v := some (.int (i32 (r65)))) rfl rfl rfl rfl rfl rfl ?_
          exact ⟨_, _, _, ln2_66, at2_67, fk2_68, nd2_69, sy2_70, na2_71, vi2_72, lf2_73, ec2_74, rfl, rfl, hW75, hF101, hP102, hS103, hV104, by omega, (e81), (e82), (e83), (e84), (e85), (e86), (e87), (e88), e89, by omega, by omega, by omega, by omega, by omega, by omega, by omega, by omega, by omega, by omega, by first | exact Or.inr ((⟨by omega, by omega, by omega, by omega, by omega, by omega, by omega, a114, a115, by omega⟩))⟩
      · refine jx_swe (z := 3) (tg := 126) h8 rfl rfl rfl rfl ?_
        refine jx_ld (pc' := 127) (l' := L7) (st' := [.ref 66]) rfl (jl_aloadn gL7_0) ?_
        refine jx_vr (pc' := 130) (as := []) (st := []) rfl rfl rfl rfl ⟨rfl, rfl, Nat.le_of_ble_eq_true rfl⟩ rfl rfl (c_next (dd := d) (hd := by omega) (hW := hW)  (ln := ln) (e_ln := show G 9 = ln from (e_ln)) (le := le) (e_le := show A 4 (ln).toNat = le from (e_le)) (at0 := at0) (e_at0 := show G 10 = at0 from (e_at0))    (p_0 := by omega)) (fun o V' hq => ?_)
        obtain ⟨G117, A118, at2_119, tk2_120, rfl, rfl, hW121, hF122, e123, e124, p125, p126, p127, -⟩ := hq
        have hF129 := Fr_tr hF0 hF122 (Fr_sub (by decide)) (Fr_sub (by decide))
        have hP130 := Pf_f hP0 hF122 (by decide)
        have hS131 := Fx_f hS0 hF122 (by decide)
        have hV132 := Fx_f hV0 hF122 (by decide)
        have ec133 : ecn A118 (G117 31) = ec := (ecn_f (hF122.2 15 rfl) (hF122.1 31 rfl)).trans e_ec
        have bat2_119 : (0 : Int) ≤ at2_119 ∧ at2_119 ≤ 3002 := e123 ▸ hW121.1 10
        have ztk2_120 := tz_b tk2_120
        have btk2_120 : (0 : Int) ≤ tk2_120 ∧ tk2_120 ≤ 5 := e124 ▸ hW121.1 11
        refine .inl ⟨rfl, ?_⟩
        have pz134 : at0 + tz tk2_120 ≤ at2_119 := by omega
        refine jx_ld (pc' := 131) (l' := L7) (st' := [.ref 66]) rfl (jl_aloadn gL7_0) ?_
        refine jx_vr (pc' := 134) (as := []) (st := []) rfl rfl rfl rfl ⟨rfl, rfl, Nat.le_of_ble_eq_true rfl⟩ rfl rfl (c_bad (dd := d) (hd := by omega) (hW := hW121)  (fk := fk) (e_fk := show G117 16 = fk from ((hF122.1 16 rfl).trans (e_fk)))    ) (fun o V' hq => ?_)
        obtain ⟨r135, rfl, rfl, b136, q137⟩ := hq
        refine .inr ⟨_, rfl, ?_⟩
        rcases q137 with ⟨rfl, a138⟩ | ⟨rfl, a139⟩
        · have _q : True := trivial
          exfalso
          omega
        · have _q : True := trivial
          refine jx_if_ne (pc' := 137) (tg := 156) rfl rfl rfl (by decide) (by decide) (fun h140 => ?_) (fun h140 => ?_)
          · have _q := h140
            exact absurd h140 (by omega)
          · have _q := h140
            refine jx_ld (pc' := 138) (l' := L7) (st' := [.ref 66]) rfl (jl_aloadn gL7_0) ?_
            refine jx_ar (pc' := 139) (st' := [.int (i32 (2)), .ref 66]) rfl rfl rfl rfl ?_
            have b141 : (-2147483648 : Int) ≤ G117 13 ∧ G117 13 ≤ 2147483647 := hW121.1 13
            refine jx_vr (pc' := 142) (as := [.int (i32 (2))]) (st := []) rfl rfl rfl rfl ⟨rfl, rfl, Nat.le_of_ble_eq_true rfl⟩ rfl rfl (c_isKey (dd := d) (hd := by omega) (hW := hW121) (k := 2) (tk := tk2_120) (e_tk := show G117 11 = tk2_120 from (e124)) (tn := G117 13) (e_tn := show G117 13 = G117 13 from rfl)  (h_k := ⟨(by decide), (by decide)⟩)  ) (fun o V' hq => ?_)
            obtain ⟨r142, rfl, rfl, b143, q144⟩ := hq
            refine .inr ⟨_, rfl, ?_⟩
            rcases q144 with ⟨rfl, a145, a146, a147⟩ | rfl
            · have _q : True := trivial
              refine jx_if_ne (pc' := 145) (tg := 156) rfl rfl rfl (by decide) (by decide) (fun h148 => ?_) (fun h148 => ?_)
              · have _q := h148
                refine jx_ld (pc' := 157) (l' := L7) (st' := [.ref 66]) rfl (jl_aloadn gL7_0) ?_
                refine jx_ar (pc' := 159) (st' := [.int (i32 (28)), .ref 66]) rfl rfl rfl rfl ?_
                refine jx_ar (pc' := 160) (st' := [.int (i32 (1)), .int (i32 (28)), .ref 66]) rfl rfl rfl rfl ?_
                refine jx_ar (pc' := 161) (st' := [.int (i32 (0)), .int (i32 (1)), .int (i32 (28)), .ref 66]) rfl rfl rfl rfl ?_
                refine jx_ar (pc' := 162) (st' := [.int (i32 (0)), .int (i32 (0)), .int (i32 (1)), .int (i32 (28)), .ref 66]) rfl rfl rfl rfl ?_
                refine jx_ar (pc' := 163) (st' := [.int (i32 (0)), .int (i32 (0)), .int (i32 (0)), .int (i32 (1)), .int (i32 (28)), .ref 66]) rfl rfl rfl rfl ?_
                refine jx_vr (pc' := 166) (as := [.int (i32 (28)), .int (i32 (1)), .int (i32 (0)), .int (i32 (0)), .int (i32 (0))]) (st := []) rfl rfl rfl rfl ⟨rfl, rfl, Nat.le_of_ble_eq_true rfl⟩ rfl rfl (c_node_o (dd := d) (hd := by omega) (hW := hW121) (kind := 28) (a := 1) (b := 0) (c := 0) (e := 0) (nd := nd) (e_nd := show G117 31 = nd from ((hF122.1 31 rfl).trans (e_nd))) (ec := ec) (e_ec := show ecn A118 (G117 31) = ec from ec133)  (h_kind := ⟨(by decide), (by decide)⟩) (h_a := ⟨(by decide), (by decide)⟩) (h_b := ⟨(by decide), (by decide)⟩) (h_c := ⟨(by decide), (by decide)⟩) (h_e := ⟨(by decide), (by decide)⟩)  (p_0 := by omega) (p_1 := by omega) (p_2 := by omega)) (fun o V' hq => ?_)
                obtain ⟨G149, A150, nd2_151, ec2_152, rfl, rfl, hW153, hF154, hQ155, e156, e157, p158, p159, p160, -⟩ := hq
                have hF162 := Fr_tr hF129 hF154 (Fr_sub (by decide)) (Fr_sub (by decide))
                have hP163 := Pf_tr hP130 hQ155 (by omega)
                have hS164 := Fx_f hS131 hF154 (by decide)
                have hV165 := Fx_f hV132 hF154 (by decide)
                have bnd2_151 : (0 : Int) ≤ nd2_151 ∧ nd2_151 ≤ 6999 := e156 ▸ hW153.1 31
                refine .inr ⟨_, rfl, ?_⟩
                refine jx_ld (pc' := 167) (l' := jSto1 L7 2 (.int (i32 (nd)))) (st' := []) rfl rfl ?_
                obtain ⟨L166, eL166⟩ : ∃ q, q = jSto1 L7 2 (.int (i32 (nd))) := ⟨_, rfl⟩
                rw [← eL166]
                have gL166_0 : jGet L166 0 = some (.ref 66) := eL166 ▸ jg_ne (by decide) gL7_0 rfl
                have gL166_1 : jGet L166 1 = some (.int (i32 (lv))) := eL166 ▸ jg_ne (by decide) gL7_1 rfl
                have gL166_3 : jGet L166 3 = some (.int (i32 (G 13))) := eL166 ▸ jg_ne (by decide) gL7_3 rfl
                have gL166_2 : jGet L166 2 = some (.int (i32 (nd))) := eL166 ▸ jg_eq
                refine jx_ld (pc' := 168) (l' := L166) (st' := [.ref 66]) rfl (jl_aloadn gL166_0) ?_
                refine jx_ar (pc' := 169) (st' := [.int (i32 (1)), .ref 66]) rfl rfl rfl rfl ?_
                refine jx_vr (pc' := 172) (as := [.int (i32 (1))]) (st := []) rfl rfl rfl rfl ⟨rfl, rfl, Nat.le_of_ble_eq_true rfl⟩ rfl rfl (c_need (dd := d) (hd := by omega) (hW := hW153) (g := 1) (ln := ln) (e_ln := show G149 9 = ln from ((hF154.1 9 rfl).trans ((hF122.1 9 rfl).trans (e_ln)))) (le := le) (e_le := show A150 4 (ln).toNat = le from (congrFun ((hF154.2 4 rfl).trans (hF122.2 4 rfl)) _).trans (e_le)) (at0 := at2_119) (e_at0 := show G149 10 = at2_119 from ((hF154.1 10 rfl).trans (e123))) (fk := fk) (e_fk := show G149 16 = fk from ((hF154.1 16 rfl).trans ((hF122.1 16 rfl).trans (e_fk)))) (tk0 := tk2_120) (e_tk0 := show G149 11 = tk2_120 from ((hF154.1 11 rfl).trans (e124)))  (h_g := ⟨(by decide), (by decide)⟩)  (p_0 := by omega)) (fun o V' hq => ?_)
                obtain ⟨G167, A168, at2_169, tk2_170, fk2_171, rfl, rfl, hW172, hF173, e174, e175, e176, p177, p178, q179⟩ := hq
                have hF180 := Fr_tr hF162 hF173 (Fr_sub (by decide)) (Fr_sub (by decide))
                have hP181 := Pf_f hP163 hF173 (by decide)
                have hS182 := Fx_f hS164 hF173 (by decide)
                have hV183 := Fx_f hV165 hF173 (by decide)
                have sf184 : ND A168 (nd) (28) (1) (0) (0) (0) (0) (0) := ND_ag (by omega) (Ag_fr hF173 (by decide)) p160
                have ec185 : ecn A168 (G167 31) = ec2_152 := (ecn_f (hF173.2 15 rfl) (hF173.1 31 rfl)).trans e157
                have bat2_169 : (0 : Int) ≤ at2_169 ∧ at2_169 ≤ 3002 := e174 ▸ hW172.1 10
                have ztk2_170 := tz_b tk2_170
                have btk2_170 : (0 : Int) ≤ tk2_170 ∧ tk2_170 ≤ 5 := e175 ▸ hW172.1 11
                have bfk2_171 : (0 : Int) ≤ fk2_171 ∧ fk2_171 ≤ 6 := e176 ▸ hW172.1 16
                refine .inl ⟨rfl, ?_⟩
                rcases q179 with ⟨a186, a187, a188, a189⟩ | ⟨a190, a191, a192, a193⟩
                · have _q : True := trivial
                  refine jx_ld (pc' := 173) (l' := L166) (st' := [.ref 66]) rfl (jl_aloadn gL166_0) ?_
                  refine jx_vr (pc' := 176) (as := []) (st := []) rfl rfl rfl rfl ⟨rfl, rfl, Nat.le_of_ble_eq_true rfl⟩ rfl rfl (c_endLine (dd := d) (hd := by omega) (hW := hW172)  (ln := ln) (e_ln := show G167 9 = ln from ((hF173.1 9 rfl).trans ((hF154.1 9 rfl).trans ((hF122.1 9 rfl).trans (e_ln))))) (li := li) (e_li := show G167 3 = li from ((hF173.1 3 rfl).trans ((hF154.1 3 rfl).trans ((hF122.1 3 rfl).trans (e_li))))) (fk := fk2_171) (e_fk := show G167 16 = fk2_171 from (e176)) (tk0 := tk2_170) (e_tk0 := show G167 11 = tk2_170 from (e175))    (p_0 := by omega)) (fun o V' hq => ?_)
                  obtain ⟨G194, A195, ln2_196, fk2_197, rfl, rfl, hW198, hF199, e200, e201, q202⟩ := hq
                  have hF203 := Fr_tr hF180 hF199 (Fr_sub (by decide)) (Fr_sub (by decide))
                  have hP204 := Pf_f hP181 hF199 (by decide)
                  have hS205 := Fx_f hS182 hF199 (by decide)
                  have hV206 := Fx_f hV183 hF199 (by decide)
                  have sf207 : ND A195 (nd) (28) (1) (0) (0) (0) (0) (0) := ND_ag (by omega) (Ag_fr hF199 (by decide)) sf184
                  have ec208 : ecn A195 (G194 31) = ec2_152 := (ecn_f (hF199.2 15 rfl) (hF199.1 31 rfl)).trans ec185
                  have bln2_196 : (0 : Int) ≤ ln2_196 ∧ ln2_196 ≤ 3000 := e200 ▸ hW198.1 9
                  have bfk2_197 : (0 : Int) ≤ fk2_197 ∧ fk2_197 ≤ 6 := e201 ▸ hW198.1 16
                  refine .inl ⟨rfl, ?_⟩
                  rcases q202 with ⟨a209, a210, a211, a212, a213⟩ | ⟨a214, a215⟩
                  · have _q : True := trivial
                    exfalso
                    omega
                  · have _q : True := trivial
                    refine jx_ld (pc' := 177) (l' := L166) (st' := [.ref 66]) rfl (jl_aloadn gL166_0) ?_
                    refine jx_ld (pc' := 178) (l' := L166) (st' := [.int (i32 (nd)), .ref 66]) rfl (jl_iloadn gL166_2) ?_
                    refine jx_ld (pc' := 179) (l' := L166) (st' := [.int (i32 (lv)), .int (i32 (nd)), .ref 66]) rfl (jl_iloadn gL166_1) ?_
                    refine jx_ar (pc' := 180) (st' := [.int (i32 (2)), .int (i32 (lv)), .int (i32 (nd)), .ref 66]) rfl rfl rfl rfl ?_
                    refine jx_ar (pc' := 181) (st' := [.int (i32 (2)), .int (i32 (2)), .int (i32 (lv)), .int (i32 (nd)), .ref 66]) rfl rfl rfl rfl ?_
                    refine jx_vr (pc' := 184) (as := [.int (i32 (nd)), .int (i32 (lv)), .int (i32 (2)), .int (i32 (2))]) (st := []) rfl rfl rfl rfl ⟨rfl, rfl, Nat.le_of_ble_eq_true rfl⟩ rfl rfl (c_readChildren_f (dd := d) (zz := nd) (hd := by omega) (hW := hW198) (n := nd) (lv := lv) (least := 2) (mo := 2) (fk := fk2_197) (e_fk := show G194 16 = fk2_197 from (e201))  (h_n := ⟨(Int.le_trans (by decide : (-2147483648 : Int) ≤ 0) b_nd.1), (Int.le_trans b_nd.2 (by decide : (6999 : Int) ≤ 2147483647))⟩) (h_lv := ⟨(Int.le_trans (by decide : (-2147483648 : Int) ≤ -2147483648) h_lv.1), (Int.le_trans h_lv.2 (by decide : (2147483647 : Int) ≤ 2147483647))⟩) (h_least := ⟨(by decide), (by decide)⟩) (h_mo := ⟨(by decide), (by decide)⟩)  (p_0 := by omega) (p_1 := by omega) (p_2 := by omega) (p_3 := by omega)) (fun o V' hq => ?_)
                    obtain ⟨G216, A217, fk2_218, rfl, rfl, hW219, hF220, hQ221, e222, p223, -⟩ := hq
                    have hF225 := Fr_tr hF203 hF220 (Fr_sub (by decide)) (Fr_sub (by decide))
                    have hP226 := Pf_tr hP204 hQ221 (by omega)
                    have hS227 := Fx_f hS205 hF220 (by decide)
                    have hV228 := Fx_f hV206 hF220 (by decide)
                    have ec229 : ecn A217 (G216 31) = ec2_152 := (ecn_f (hF220.2 15 rfl) (hF220.1 31 rfl)).trans ec208
                    have bfk2_218 : (0 : Int) ≤ fk2_218 ∧ fk2_218 ≤ 6 := e222 ▸ hW219.1 16
                    refine .inl ⟨rfl, ?_⟩
                    refine jx_ld (pc' := 185) (l' := L166) (st' := [.int (i32 (nd))]) rfl (jl_iloadn gL166_2) ?_
                    refine jx_rt (v := some (.int (i32 (nd)))) rfl rfl rfl rfl rfl rfl ?_
                    exact ⟨_, _, _, ln2_196, at2_169, fk2_218, nd2_151, sy, na, vi, A 3 (ln2_196).toNat, ec2_152, rfl, rfl, hW219, hF225, hP226, hS227, hV228, by omega, ((hF220.1 9 rfl).trans (e200)), ((hF220.1 10 rfl).trans ((hF199.1 10 rfl).trans (e174))), (e222), ((hF220.1 31 rfl).trans ((hF199.1 31 rfl).trans ((hF173.1 31 rfl).trans (e156)))), ((hF220.1 19 rfl).trans ((hF199.1 19 rfl).trans ((hF173.1 19 rfl).trans ((hF154.1 19 rfl).trans ((hF122.1 19 rfl).trans (e_sy)))))), ((hF220.1 28 rfl).trans ((hF199.1 28 rfl).trans ((hF173.1 28 rfl).trans ((hF154.1 28 rfl).trans ((hF122.1 28 rfl).trans (e_na)))))), ((hF220.1 29 rfl).trans ((hF199.1 29 rfl).trans ((hF173.1 29 rfl).trans ((hF154.1 29 rfl).trans ((hF122.1 29 rfl).trans (e_vi)))))), (congrFun ((hF220.2 3 rfl).trans ((hF199.2 3 rfl).trans ((hF173.2 3 rfl).trans ((hF154.2 3 rfl).trans (hF122.2 3 rfl))))) _), ec229, by omega, by omega, by omega, by omega, by omega, by omega, by omega, by omega, by omega, by omega, by first | exact Or.inl (⟨by omega, by omega⟩)⟩
                · have _q : True := trivial
                  have pz230 : at2_119 + tz tk2_170 ≤ at2_169 := by omega
                  refine jx_ld (pc' := 173) (l' := L166) (st' := [.ref 66]) rfl (jl_aloadn gL166_0) ?_
                  refine jx_vr (pc' := 176) (as := []) (st := []) rfl rfl rfl rfl ⟨rfl, rfl, Nat.le_of_ble_eq_true rfl⟩ rfl rfl (c_endLine (dd := d) (hd := by omega) (hW := hW172)  (ln := ln) (e_ln := show G167 9 = ln from ((hF173.1 9 rfl).trans ((hF154.1 9 rfl).trans ((hF122.1 9 rfl).trans (e_ln))))) (li := li) (e_li := show G167 3 = li from ((hF173.1 3 rfl).trans ((hF154.1 3 rfl).trans ((hF122.1 3 rfl).trans (e_li))))) (fk := fk2_171) (e_fk := show G167 16 = fk2_171 from (e176)) (tk0 := tk2_170) (e_tk0 := show G167 11 = tk2_170 from (e175))    (p_0 := by omega)) (fun o V' hq => ?_)
                  obtain ⟨G231, A232, ln2_233, fk2_234, rfl, rfl, hW235, hF236, e237, e238, q239⟩ := hq
                  have hF240 := Fr_tr hF180 hF236 (Fr_sub (by decide)) (Fr_sub (by decide))
                  have hP241 := Pf_f hP181 hF236 (by decide)
                  have hS242 := Fx_f hS182 hF236 (by decide)
                  have hV243 := Fx_f hV183 hF236 (by decide)
                  have sf244 : ND A232 (nd) (28) (1) (0) (0) (0) (0) (0) := ND_ag (by omega) (Ag_fr hF236 (by decide)) sf184
                  have ec245 : ecn A232 (G231 31) = ec2_152 := (ecn_f (hF236.2 15 rfl) (hF236.1 31 rfl)).trans ec185
                  have bln2_233 : (0 : Int) ≤ ln2_233 ∧ ln2_233 ≤ 3000 := e237 ▸ hW235.1 9
                  have bfk2_234 : (0 : Int) ≤ fk2_234 ∧ fk2_234 ≤ 6 := e238 ▸ hW235.1 16
                  refine .inl ⟨rfl, ?_⟩
                  rcases q239 with ⟨a246, a247, a248, a249, a250⟩ | ⟨a251, a252⟩
                  · have _q : True := trivial
                    have b253 : (0 : Int) ≤ A 3 (ln2_233).toNat ∧ A 3 (ln2_233).toNat ≤ 3000 := hW.2 3 _
                    have lt254 : ln2_233 < li → le < A 3 (ln2_233).toNat := fun hh => LT_nx (LT_ext (((hF236.1 3 rfl).trans ((hF173.1 3 rfl).trans ((hF154.1 3 rfl).trans (hF122.1 3 rfl))))) (((hF236.2 3 rfl).trans ((hF173.2 3 rfl).trans ((hF154.2 3 rfl).trans (hF122.2 3 rfl))))) (((hF236.2 4 rfl).trans ((hF173.2 4 rfl).trans ((hF154.2 4 rfl).trans (hF122.2 4 rfl))))) i_LT) (show G231 3 = li from ((hF236.1 3 rfl).trans ((hF173.1 3 rfl).trans ((hF154.1 3 rfl).trans ((hF122.1 3 rfl).trans (e_li)))))) (show A232 4 (ln).toNat = le from (congrFun ((hF236.2 4 rfl).trans ((hF173.2 4 rfl).trans ((hF154.2 4 rfl).trans (hF122.2 4 rfl)))) _).trans (e_le)) (show A232 3 (ln2_233).toNat = A 3 (ln2_233).toNat from (congrFun ((hF236.2 3 rfl).trans ((hF173.2 3 rfl).trans ((hF154.2 3 rfl).trans (hF122.2 3 rfl)))) _)) (show ln2_233 = ln + 1 by omega) (by omega) hh
                    refine jx_ld (pc' := 177) (l' := L166) (st' := [.ref 66]) rfl (jl_aloadn gL166_0) ?_
                    refine jx_ld (pc' := 178) (l' := L166) (st' := [.int (i32 (nd)), .ref 66]) rfl (jl_iloadn gL166_2) ?_
                    refine jx_ld (pc' := 179) (l' := L166) (st' := [.int (i32 (lv)), .int (i32 (nd)), .ref 66]) rfl (jl_iloadn gL166_1) ?_
                    refine jx_ar (pc' := 180) (st' := [.int (i32 (2)), .int (i32 (lv)), .int (i32 (nd)), .ref 66]) rfl rfl rfl rfl ?_
                    refine jx_ar (pc' := 181) (st' := [.int (i32 (2)), .int (i32 (2)), .int (i32 (lv)), .int (i32 (nd)), .ref 66]) rfl rfl rfl rfl ?_
                    refine jx_vr (pc' := 184) (as := [.int (i32 (nd)), .int (i32 (lv)), .int (i32 (2)), .int (i32 (2))]) (st := []) rfl rfl rfl rfl ⟨rfl, rfl, Nat.le_of_ble_eq_true rfl⟩ rfl rfl (c_readChildren_w (dd := d) (hP := hP) (zz := nd) (hd := by omega) (hW := hW235) (n := nd) (lv := lv) (least := 2) (mo := 2) (kk := 28) (aa := 1) (bb := 0) (cc := 0) (de := 0) (xx := 0) (ln := ln2_233) (e_ln := show G231 9 = ln2_233 from (e237)) (li := li) (e_li := show G231 3 = li from ((hF236.1 3 rfl).trans ((hF173.1 3 rfl).trans ((hF154.1 3 rfl).trans ((hF122.1 3 rfl).trans (e_li)))))) (at0 := at2_169) (e_at0 := show G231 10 = at2_169 from ((hF236.1 10 rfl).trans (e174))) (fk := fk2_234) (e_fk := show G231 16 = fk2_234 from (e238)) (nd := nd2_151) (e_nd := show G231 31 = nd2_151 from ((hF236.1 31 rfl).trans ((hF173.1 31 rfl).trans (e156)))) (sy := sy) (e_sy := show G231 19 = sy from ((hF236.1 19 rfl).trans ((hF173.1 19 rfl).trans ((hF154.1 19 rfl).trans ((hF122.1 19 rfl).trans (e_sy)))))) (na := na) (e_na := show G231 28 = na from ((hF236.1 28 rfl).trans ((hF173.1 28 rfl).trans ((hF154.1 28 rfl).trans ((hF122.1 28 rfl).trans (e_na)))))) (vi := vi) (e_vi := show G231 29 = vi from ((hF236.1 29 rfl).trans ((hF173.1 29 rfl).trans ((hF154.1 29 rfl).trans ((hF122.1 29 rfl).trans (e_vi)))))) (lf := A 3 (ln2_233).toNat) (e_lf := show A232 3 (ln2_233).toNat = A 3 (ln2_233).toNat from (congrFun ((hF236.2 3 rfl).trans ((hF173.2 3 rfl).trans ((hF154.2 3 rfl).trans (hF122.2 3 rfl)))) _)) (ec := ec2_152) (e_ec := show ecn A232 (G231 31) = ec2_152 from ec245) (i_LT := (LT_ext (((hF236.1 3 rfl).trans ((hF173.1 3 rfl).trans ((hF154.1 3 rfl).trans (hF122.1 3 rfl))))) (((hF236.2 3 rfl).trans ((hF173.2 3 rfl).trans ((hF154.2 3 rfl).trans (hF122.2 3 rfl))))) (((hF236.2 4 rfl).trans ((hF173.2 4 rfl).trans ((hF154.2 4 rfl).trans (hF122.2 4 rfl))))) i_LT)) (i_SV := (SV_fx i_SV e_vi (show G231 29 = vi from ((hF236.1 29 rfl).trans ((hF173.1 29 rfl).trans ((hF154.1 29 rfl).trans ((hF122.1 29 rfl).trans (e_vi)))))) (by omega) hV243)) (i_PQ := (PQ_fx i_PQ hS242 (by omega) (hF240.2 29 rfl) (hF240.2 30 rfl))) (hvb := hvb) (h_n := ⟨(Int.le_trans (by decide : (-2147483648 : Int) ≤ 0) b_nd.1), (Int.le_trans b_nd.2 (by decide : (6999 : Int) ≤ 2147483647))⟩) (h_lv := ⟨(Int.le_trans (by decide : (-2147483648 : Int) ≤ -2147483648) h_lv.1), (Int.le_trans h_lv.2 (by decide : (2147483647 : Int) ≤ 2147483647))⟩) (h_least := ⟨(by decide), (by decide)⟩) (h_mo := ⟨(by decide), (by decide)⟩)  (p_0 := by omega) (p_1 := by omega) (p_2 := by omega) (p_3 := by omega) (p_4 := by omega) (p_5 := by omega) (p_6 := by omega) (p_7 := by omega) (p_8 := by omega) (p_9 := by omega) (p_10 := by omega) (p_11 := by omega) (p_12 := by omega) (p_13 := by omega) (p_14 := by omega) (p_15 := sf244)) (fun o V' hq => ?_)
                    obtain ⟨G255, A256, ln2_257, at2_258, fk2_259, nd2_260, sy2_261, na2_262, vi2_263, lf2_264, mm_265, f2_266, ec2_267, rfl, rfl, hW268, hF269, hQ270, hQ271, hQ272, hQ273, e274, e275, e276, e277, e278, e279, e280, e281, e282, e283, e284, p285, p286, p287, p288, p289, p290, p291, q292⟩ := hq
                    have hF293 := Fr_tr hF240 hF269 (Fr_sub (by decide)) (Fr_sub (by decide))
                    have hP294 := Pf_tr hP241 hQ270 (by omega)
                    have hS295 := Fx_tr hS242 hQ272 (by omega)
                    have hV296 := Fx_tr hV243 hQ273 (by omega)
                    have bln2_257 : (0 : Int) ≤ ln2_257 ∧ ln2_257 ≤ 3000 := e274 ▸ hW268.1 9
                    have bat2_258 : (0 : Int) ≤ at2_258 ∧ at2_258 ≤ 3002 := e275 ▸ hW268.1 10
                    have bfk2_259 : (0 : Int) ≤ fk2_259 ∧ fk2_259 ≤ 6 := e276 ▸ hW268.1 16
                    have bnd2_260 : (0 : Int) ≤ nd2_260 ∧ nd2_260 ≤ 6999 := e277 ▸ hW268.1 31
                    have bsy2_261 : (0 : Int) ≤ sy2_261 ∧ sy2_261 ≤ 202 := e278 ▸ hW268.1 19
                    have bna2_262 : (0 : Int) ≤ na2_262 ∧ na2_262 ≤ 200 := e279 ▸ hW268.1 28
                    have bvi2_263 : (0 : Int) ≤ vi2_263 ∧ vi2_263 ≤ 202 := e280 ▸ hW268.1 29
                    have blf2_264 : (0 : Int) ≤ lf2_264 ∧ lf2_264 ≤ 3000 := e281 ▸ hW268.2 3 _
                    have bmm_265 : (-2147483648 : Int) ≤ mm_265 ∧ mm_265 ≤ 2147483647 := e282 ▸ hW268.2 18 _
                    have bf2_266 : (-2147483648 : Int) ≤ f2_266 ∧ f2_266 ≤ 2147483647 := e283 ▸ hW268.2 21 _
                    refine .inl ⟨rfl, ?_⟩
                    rcases q292 with ⟨a297, a298⟩ | ⟨a299, a300, a301, a302, a303, a304, a305, a306⟩
                    · have _q : True := trivial
                      refine jx_ld (pc' := 185) (l' := L166) (st' := [.int (i32 (nd))]) rfl (jl_iloadn gL166_2) ?_
                      refine jx_rt (v := some (.int (i32 (nd)))) rfl rfl rfl rfl rfl rfl ?_
                      exact ⟨_, _, _, ln2_257, at2_258, fk2_259, nd2_260, sy2_261, na2_262, vi2_263, lf2_264, ec2_267, rfl, rfl, hW268, hF293, hP294, hS295, hV296, by omega, (e274), (e275), (e276), (e277), (e278), (e279), (e280), (e281), e284, by omega, by omega, by omega, by omega, by omega, by omega, by omega, by omega, by omega, by omega, by first | exact Or.inl (⟨by omega, by omega⟩)⟩
                    · have _q : True := trivial
                      refine jx_ld (pc' := 185) (l' := L166) (st' := [.int (i32 (nd))]) rfl (jl_iloadn gL166_2) ?_
                      refine jx_rt (v := some (.int (i32 (nd)))) rfl rfl rfl rfl rfl rfl ?_
                      exact ⟨_, _, _, ln2_257, at2_258, fk2_259, nd2_260, sy2_261, na2_262, vi2_263, lf2_264, ec2_267, rfl, rfl, hW268, hF293, hP294, hS295, hV296, by omega, (e274), (e275), (e276), (e277), (e278), (e279), (e280), (e281), e284, by omega, by omega, by omega, by omega, by omega, by omega, by omega, by omega, by omega, by omega, by first | exact Or.inr ((⟨by omega, by omega, by omega, by omega, by omega, by omega, by omega, (wS_par a304 (RL_eq a305 (by omega) (by omega) (by omega) (by omega) (by omega)) (by omega) (by omega) (by omega)), (NX_nd a304), by omega⟩))⟩
                  · have _q : True := trivial
                    refine jx_ld (pc' := 177) (l' := L166) (st' := [.ref 66]) rfl (jl_aloadn gL166_0) ?_
                    refine jx_ld (pc' := 178) (l' := L166) (st' := [.int (i32 (nd)), .ref 66]) rfl (jl_iloadn gL166_2) ?_
                    refine jx_ld (pc' := 179) (l' := L166) (st' := [.int (i32 (lv)), .int (i32 (nd)), .ref 66]) rfl (jl_iloadn gL166_1) ?_
                    refine jx_ar (pc' := 180) (st' := [.int (i32 (2)), .int (i32 (lv)), .int (i32 (nd)), .ref 66]) rfl rfl rfl rfl ?_
                    refine jx_ar (pc' := 181) (st' := [.int (i32 (2)), .int (i32 (2)), .int (i32 (lv)), .int (i32 (nd)), .ref 66]) rfl rfl rfl rfl ?_
                    refine jx_vr (pc' := 184) (as := [.int (i32 (nd)), .int (i32 (lv)), .int (i32 (2)), .int (i32 (2))]) (st := []) rfl rfl rfl rfl ⟨rfl, rfl, Nat.le_of_ble_eq_true rfl⟩ rfl rfl (c_readChildren_f (dd := d) (zz := nd) (hd := by omega) (hW := hW235) (n := nd) (lv := lv) (least := 2) (mo := 2) (fk := fk2_234) (e_fk := show G231 16 = fk2_234 from (e238))  (h_n := ⟨(Int.le_trans (by decide : (-2147483648 : Int) ≤ 0) b_nd.1), (Int.le_trans b_nd.2 (by decide : (6999 : Int) ≤ 2147483647))⟩) (h_lv := ⟨(Int.le_trans (by decide : (-2147483648 : Int) ≤ -2147483648) h_lv.1), (Int.le_trans h_lv.2 (by decide : (2147483647 : Int) ≤ 2147483647))⟩) (h_least := ⟨(by decide), (by decide)⟩) (h_mo := ⟨(by decide), (by decide)⟩)  (p_0 := by omega) (p_1 := by omega) (p_2 := by omega) (p_3 := by omega)) (fun o V' hq => ?_)
                    obtain ⟨G307, A308, fk2_309, rfl, rfl, hW310, hF311, hQ312, e313, p314, -⟩ := hq
                    have hF316 := Fr_tr hF240 hF311 (Fr_sub (by decide)) (Fr_sub (by decide))
                    have hP317 := Pf_tr hP241 hQ312 (by omega)
                    have hS318 := Fx_f hS242 hF311 (by decide)
                    have hV319 := Fx_f hV243 hF311 (by decide)
                    have ec320 : ecn A308 (G307 31) = ec2_152 := (ecn_f (hF311.2 15 rfl) (hF311.1 31 rfl)).trans ec245
                    have bfk2_309 : (0 : Int) ≤ fk2_309 ∧ fk2_309 ≤ 6 := e313 ▸ hW310.1 16
                    refine .inl ⟨rfl, ?_⟩
                    refine jx_ld (pc' := 185) (l' := L166) (st' := [.int (i32 (nd))]) rfl (jl_iloadn gL166_2) ?_
                    refine jx_rt (v := some (.int (i32 (nd)))) rfl rfl rfl rfl rfl rfl ?_
                    exact ⟨_, _, _, ln2_233, at2_169, fk2_309, nd2_151, sy, na, vi, A 3 (ln2_233).toNat, ec2_152, rfl, rfl, hW310, hF316, hP317, hS318, hV319, by omega, ((hF311.1 9 rfl).trans (e237)), ((hF311.1 10 rfl).trans ((hF236.1 10 rfl).trans (e174))), (e313), ((hF311.1 31 rfl).trans ((hF236.1 31 rfl).trans ((hF173.1 31 rfl).trans (e156)))), ((hF311.1 19 rfl).trans ((hF236.1 19 rfl).trans ((hF173.1 19 rfl).trans ((hF154.1 19 rfl).trans ((hF122.1 19 rfl).trans (e_sy)))))), ((hF311.1 28 rfl).trans ((hF236.1 28 rfl).trans ((hF173.1 28 rfl).trans ((hF154.1 28 rfl).trans ((hF122.1 28 rfl).trans (e_na)))))), ((hF311.1 29 rfl).trans ((hF236.1 29 rfl).trans ((hF173.1 29 rfl).trans ((hF154.1 29 rfl).trans ((hF122.1 29 rfl).trans (e_vi)))))), (congrFun ((hF311.2 3 rfl).trans ((hF236.2 3 rfl).trans ((hF173.2 3 rfl).trans ((hF154.2 3 rfl).trans (hF122.2 3 rfl))))) _), ec320, by omega, by omega, by omega, by omega, by omega, by omega, by omega, by omega, by omega, by omega, by first | exact Or.inl (⟨by omega, by omega⟩)⟩
              · have _q := h148
                exact absurd h148 (by omega)
            · have _q : True := trivial
              refine jx_if_ne (pc' := 145) (tg := 156) rfl rfl rfl (by decide) (by decide) (fun h321 => ?_) (fun h321 => ?_)
              · have _q := h321
                exact absurd h321 (by omega)
              · have _q := h321
                refine jx_ld (pc' := 146) (l' := L7) (st' := [.ref 66]) rfl (jl_aloadn gL7_0) ?_
                refine jx_ar (pc' := 147) (st' := [.int (i32 (1)), .ref 66]) rfl rfl rfl rfl ?_
                refine jx_ld (pc' := 148) (l' := L7) (st' := [.ref 66, .int (i32 (1)), .ref 66]) rfl (jl_aloadn gL7_0) ?_
                have b322 : (-3000 : Int) ≤ G117 12 ∧ G117 12 ≤ 3002 := hW121.1 12
                refine jr_get (pc' := 151) (i := 12) (v := .int (i32 (G117 12))) rfl rfl (by decide) rfl rfl ?_
                refine jx_vr (pc' := 154) (as := [.int (i32 (1)), .int (i32 (G117 12))]) (st := []) rfl rfl rfl rfl ⟨rfl, rfl, Nat.le_of_ble_eq_true rfl⟩ rfl rfl (c_fail (dd := d) (hd := by omega) (hW := hW121) (kind := 1) (place := G117 12) (fk := fk) (e_fk := show G117 16 = fk from ((hF122.1 16 rfl).trans (e_fk)))  (h_kind := ⟨(by decide), (by decide)⟩) (h_place := ⟨(Int.le_trans (by decide : (-2147483648 : Int) ≤ -3000) b322.1), (Int.le_trans b322.2 (by decide : (3002 : Int) ≤ 2147483647))⟩)  (p_0 := by omega) (p_1 := by omega)) (fun o V' hq => ?_)
                obtain ⟨G323, A324, fk2_325, rfl, rfl, hW326, hF327, e328, p329, -⟩ := hq
                have hF331 := Fr_tr hF129 hF327 (Fr_sub (by decide)) (Fr_sub (by decide))
                have hP332 := Pf_f hP130 hF327 (by decide)
                have hS333 := Fx_f hS131 hF327 (by decide)
                have hV334 := Fx_f hV132 hF327 (by decide)
                have ec335 : ecn A324 (G323 31) = ec := (ecn_f (hF327.2 15 rfl) (hF327.1 31 rfl)).trans ec133
                have bfk2_325 : (0 : Int) ≤ fk2_325 ∧ fk2_325 ≤ 6 := e328 ▸ hW326.1 16
                refine .inl ⟨rfl, ?_⟩
                refine jx_ar (pc' := 155) (st' := [.int (i32 (0))]) rfl rfl rfl rfl ?_
                refine jx_rt (v := some (.int (i32 (0)))) rfl rfl rfl rfl rfl rfl ?_
                exact ⟨_, _, _, ln, at2_119, fk2_325, nd, sy, na, vi, A 3 (ln).toNat, ec, rfl, rfl, hW326, hF331, hP332, hS333, hV334, by omega, ((hF327.1 9 rfl).trans ((hF122.1 9 rfl).trans (e_ln))), ((hF327.1 10 rfl).trans (e123)), (e328), ((hF327.1 31 rfl).trans ((hF122.1 31 rfl).trans (e_nd))), ((hF327.1 19 rfl).trans ((hF122.1 19 rfl).trans (e_sy))), ((hF327.1 28 rfl).trans ((hF122.1 28 rfl).trans (e_na))), ((hF327.1 29 rfl).trans ((hF122.1 29 rfl).trans (e_vi))), (congrFun ((hF327.2 3 rfl).trans (hF122.2 3 rfl)) _), ec335, by omega, by omega, by omega, by omega, by omega, by omega, by omega, by omega, by omega, by omega, by first | exact Or.inl (⟨by omega, by omega⟩)⟩
      · refine jx_swe (z := 4) (tg := 253) h8 rfl rfl rfl rfl ?_
        refine jx_ld (pc' := 254) (l' := L7) (st' := [.ref 66]) rfl (jl_aloadn gL7_0) ?_
        refine jx_ld (pc' := 255) (l' := L7) (st' := [.int (i32 (lv)), .ref 66]) rfl (jl_iloadn gL7_1) ?_
        refine jx_vr (pc' := 258) (as := [.int (i32 (lv))]) (st := []) rfl rfl rfl rfl ⟨rfl, rfl, Nat.le_of_ble_eq_true rfl⟩ rfl rfl (c_readAlt_w (dd := d) (hP := hP) (hd := by omega) (hW := hW) (lv := lv) (ln := ln) (e_ln := show G 9 = ln from (e_ln)) (li := li) (e_li := show G 3 = li from (e_li)) (at0 := at0) (e_at0 := show G 10 = at0 from (e_at0)) (fk := fk) (e_fk := show G 16 = fk from (e_fk)) (nd := nd) (e_nd := show G 31 = nd from (e_nd)) (sy := sy) (e_sy := show G 19 = sy from (e_sy)) (na := na) (e_na := show G 28 = na from (e_na)) (vi := vi) (e_vi := show G 29 = vi from (e_vi)) (le := le) (e_le := show A 4 (ln).toNat = le from (e_le)) (op0 := op0) (e_op0 := show G 15 = op0 from (e_op0)) (tk0 := tk0) (e_tk0 := show G 11 = tk0 from (e_tk0)) (ec := ec) (e_ec := show ecn A (G 31) = ec from e_ec) (i_LT := (LT_ext (rfl) (rfl) (rfl) i_LT)) (i_SV := (SV_fx i_SV e_vi (show G 29 = vi from (e_vi)) (by omega) hV0)) (i_PQ := (PQ_fx i_PQ hS0 (by omega) (hF0.2 29 rfl) (hF0.2 30 rfl))) (hvb := hvb) (h_lv := ⟨(Int.le_trans (by decide : (-2147483648 : Int) ≤ -2147483648) h_lv.1), (Int.le_trans h_lv.2 (by decide : (2147483647 : Int) ≤ 2147483647))⟩)  (p_0 := by omega) (p_1 := by omega) (p_2 := by omega) (p_3 := by omega) (p_4 := by omega) (p_5 := by omega) (p_6 := by omega) (p_7 := by omega) (p_8 := by omega) (p_9 := by omega) (p_10 := by omega)) (fun o V' hq => ?_)
        obtain ⟨G336, A337, r338, ln2_339, at2_340, fk2_341, nd2_342, sy2_343, na2_344, vi2_345, lf2_346, ec2_347, rfl, rfl, hW348, hF349, hQ350, hQ351, hQ352, b353, e354, e355, e356, e357, e358, e359, e360, e361, e362, p363, p364, p365, p366, p367, p368, p369, p370, p371, p372, q373⟩ := hq
        have hF374 := Fr_tr hF0 hF349 (Fr_sub (by decide)) (Fr_sub (by decide))
        have hP375 := Pf_tr hP0 hQ350 (by omega)
        have hS376 := Fx_tr hS0 hQ351 (by omega)
        have hV377 := Fx_tr hV0 hQ352 (by omega)
        have bln2_339 : (0 : Int) ≤ ln2_339 ∧ ln2_339 ≤ 3000 := e354 ▸ hW348.1 9
        have bat2_340 : (0 : Int) ≤ at2_340 ∧ at2_340 ≤ 3002 := e355 ▸ hW348.1 10
        have bfk2_341 : (0 : Int) ≤ fk2_341 ∧ fk2_341 ≤ 6 := e356 ▸ hW348.1 16
        have bnd2_342 : (0 : Int) ≤ nd2_342 ∧ nd2_342 ≤ 6999 := e357 ▸ hW348.1 31
        have bsy2_343 : (0 : Int) ≤ sy2_343 ∧ sy2_343 ≤ 202 := e358 ▸ hW348.1 19
        have bna2_344 : (0 : Int) ≤ na2_344 ∧ na2_344 ≤ 200 := e359 ▸ hW348.1 28
        have bvi2_345 : (0 : Int) ≤ vi2_345 ∧ vi2_345 ≤ 202 := e360 ▸ hW348.1 29
        have blf2_346 : (0 : Int) ≤ lf2_346 ∧ lf2_346 ≤ 3000 := e361 ▸ hW348.2 3 _
        refine .inr ⟨_, rfl, ?_⟩
        rcases q373 with ⟨a378, a379⟩ | ⟨a380, a381, a382, a383, a384, a385, a386, a387, a388, a389⟩
        · have _q : True := trivial
          refine jx_rt (v := some (.int (i32 (r338)))) rfl rfl rfl rfl rfl rfl ?_
          exact ⟨_, _, _, ln2_339, at2_340, fk2_341, nd2_342, sy2_343, na2_344, vi2_345, lf2_346, ec2_347, rfl, rfl, hW348, hF374, hP375, hS376, hV377, by omega, (e354), (e355), (e356), (e357), (e358), (e359), (e360), (e361), e362, by omega, by omega, by omega, by omega, by omega, by omega, by omega, by omega, by omega, by omega, by first | exact Or.inl (⟨by omega, by omega⟩)⟩
        · have _q : True := trivial
          refine jx_rt (v := some (.int (i32 (r338)))) rfl rfl rfl rfl rfl rfl ?_
          exact ⟨_, _, _, ln2_339, at2_340, fk2_341, nd2_342, sy2_343, na2_344, vi2_345, lf2_346, ec2_347, rfl, rfl, hW348, hF374, hP375, hS376, hV377, by omega, (e354), (e355), (e356), (e357), (e358), (e359), (e360), (e361), e362, by omega, by omega, by omega, by omega, by omega, by omega, by omega, by omega, by omega, by omega, by first | exact Or.inr ((⟨by omega, by omega, by omega, by omega, by omega, by omega, by omega, a387, a388, by omega⟩))⟩
      · refine jx_swe (z := 5) (tg := 192) h8 rfl rfl rfl rfl ?_
        refine jx_ld (pc' := 193) (l' := L7) (st' := [.ref 66]) rfl (jl_aloadn gL7_0) ?_
        refine jx_ld (pc' := 194) (l' := L7) (st' := [.int (i32 (lv)), .ref 66]) rfl (jl_iloadn gL7_1) ?_
        refine jx_vr (pc' := 197) (as := [.int (i32 (lv))]) (st := []) rfl rfl rfl rfl ⟨rfl, rfl, Nat.le_of_ble_eq_true rfl⟩ rfl rfl (c_readIf_w (dd := d) (hP := hP) (hd := by omega) (hW := hW) (lv := lv) (ln := ln) (e_ln := show G 9 = ln from (e_ln)) (li := li) (e_li := show G 3 = li from (e_li)) (at0 := at0) (e_at0 := show G 10 = at0 from (e_at0)) (fk := fk) (e_fk := show G 16 = fk from (e_fk)) (nd := nd) (e_nd := show G 31 = nd from (e_nd)) (sy := sy) (e_sy := show G 19 = sy from (e_sy)) (na := na) (e_na := show G 28 = na from (e_na)) (vi := vi) (e_vi := show G 29 = vi from (e_vi)) (le := le) (e_le := show A 4 (ln).toNat = le from (e_le)) (op0 := op0) (e_op0 := show G 15 = op0 from (e_op0)) (tk0 := tk0) (e_tk0 := show G 11 = tk0 from (e_tk0)) (ec := ec) (e_ec := show ecn A (G 31) = ec from e_ec) (i_LT := (LT_ext (rfl) (rfl) (rfl) i_LT)) (i_SV := (SV_fx i_SV e_vi (show G 29 = vi from (e_vi)) (by omega) hV0)) (i_PQ := (PQ_fx i_PQ hS0 (by omega) (hF0.2 29 rfl) (hF0.2 30 rfl))) (hvb := hvb) (h_lv := ⟨(Int.le_trans (by decide : (-2147483648 : Int) ≤ -2147483648) h_lv.1), (Int.le_trans h_lv.2 (by decide : (2147483647 : Int) ≤ 2147483647))⟩)  (p_0 := by omega) (p_1 := by omega) (p_2 := by omega) (p_3 := by omega) (p_4 := by omega) (p_5 := by omega) (p_6 := by omega) (p_7 := by omega) (p_8 := by omega) (p_9 := by omega) (p_10 := by omega)) (fun o V' hq => ?_)
        obtain ⟨G390, A391, r392, ln2_393, at2_394, fk2_395, nd2_396, sy2_397, na2_398, vi2_399, lf2_400, ec2_401, rfl, rfl, hW402, hF403, hQ404, hQ405, hQ406, b407, e408, e409, e410, e411, e412, e413, e414, e415, e416, p417, p418, p419, p420, p421, p422, p423, p424, p425, p426, q427⟩ := hq
        have hF428 := Fr_tr hF0 hF403 (Fr_sub (by decide)) (Fr_sub (by decide))
        have hP429 := Pf_tr hP0 hQ404 (by omega)
        have hS430 := Fx_tr hS0 hQ405 (by omega)
        have hV431 := Fx_tr hV0 hQ406 (by omega)
        have bln2_393 : (0 : Int) ≤ ln2_393 ∧ ln2_393 ≤ 3000 := e408 ▸ hW402.1 9
        have bat2_394 : (0 : Int) ≤ at2_394 ∧ at2_394 ≤ 3002 := e409 ▸ hW402.1 10
        have bfk2_395 : (0 : Int) ≤ fk2_395 ∧ fk2_395 ≤ 6 := e410 ▸ hW402.1 16
        have bnd2_396 : (0 : Int) ≤ nd2_396 ∧ nd2_396 ≤ 6999 := e411 ▸ hW402.1 31
        have bsy2_397 : (0 : Int) ≤ sy2_397 ∧ sy2_397 ≤ 202 := e412 ▸ hW402.1 19
        have bna2_398 : (0 : Int) ≤ na2_398 ∧ na2_398 ≤ 200 := e413 ▸ hW402.1 28
        have bvi2_399 : (0 : Int) ≤ vi2_399 ∧ vi2_399 ≤ 202 := e414 ▸ hW402.1 29
        have blf2_400 : (0 : Int) ≤ lf2_400 ∧ lf2_400 ≤ 3000 := e415 ▸ hW402.2 3 _
        refine .inr ⟨_, rfl, ?_⟩
        rcases q427 with ⟨a432, a433⟩ | ⟨a434, a435, a436, a437, a438, a439, a440, a441, a442, a443⟩
        · have _q : True := trivial
          refine jx_rt (v := some (.int (i32 (r392)))) rfl rfl rfl rfl rfl rfl ?_
          exact ⟨_, _, _, ln2_393, at2_394, fk2_395, nd2_396, sy2_397, na2_398, vi2_399, lf2_400, ec2_401, rfl, rfl, hW402, hF428, hP429, hS430, hV431, by omega, (e408), (e409), (e410), (e411), (e412), (e413), (e414), (e415), e416, by omega, by omega, by omega, by omega, by omega, by omega, by omega, by omega, by omega, by omega, by first | exact Or.inl (⟨by omega, by omega⟩)⟩
        · have _q : True := trivial
          refine jx_rt (v := some (.int (i32 (r392)))) rfl rfl rfl rfl rfl rfl ?_
          exact ⟨_, _, _, ln2_393, at2_394, fk2_395, nd2_396, sy2_397, na2_398, vi2_399, lf2_400, ec2_401, rfl, rfl, hW402, hF428, hP429, hS430, hV431, by omega, (e408), (e409), (e410), (e411), (e412), (e413), (e414), (e415), e416, by omega, by omega, by omega, by omega, by omega, by omega, by omega, by omega, by omega, by omega, by first | exact Or.inr ((⟨by omega, by omega, by omega, by omega, by omega, by omega, by omega, a441, a442, by omega⟩))⟩
      · refine jx_swe (z := 6) (tg := 198) h8 rfl rfl rfl rfl ?_
        refine jx_ld (pc' := 199) (l' := L7) (st' := [.ref 66]) rfl (jl_aloadn gL7_0) ?_
        refine jx_vr (pc' := 202) (as := []) (st := []) rfl rfl rfl rfl ⟨rfl, rfl, Nat.le_of_ble_eq_true rfl⟩ rfl rfl (c_next (dd := d) (hd := by omega) (hW := hW)  (ln := ln) (e_ln := show G 9 = ln from (e_ln)) (le := le) (e_le := show A 4 (ln).toNat = le from (e_le)) (at0 := at0) (e_at0 := show G 10 = at0 from (e_at0))    (p_0 := by omega)) (fun o V' hq => ?_)
        obtain ⟨G444, A445, at2_446, tk2_447, rfl, rfl, hW448, hF449, e450, e451, p452, p453, p454, -⟩ := hq
        have hF456 := Fr_tr hF0 hF449 (Fr_sub (by decide)) (Fr_sub (by decide))
        have hP457 := Pf_f hP0 hF449 (by decide)
        have hS458 := Fx_f hS0 hF449 (by decide)
        have hV459 := Fx_f hV0 hF449 (by decide)
        have ec460 : ecn A445 (G444 31) = ec := (ecn_f (hF449.2 15 rfl) (hF449.1 31 rfl)).trans e_ec
        have bat2_446 : (0 : Int) ≤ at2_446 ∧ at2_446 ≤ 3002 := e450 ▸ hW448.1 10
        have ztk2_447 := tz_b tk2_447
        have btk2_447 : (0 : Int) ≤ tk2_447 ∧ tk2_447 ≤ 5 := e451 ▸ hW448.1 11
        refine .inl ⟨rfl, ?_⟩
        have pz461 : at0 + tz tk2_447 ≤ at2_446 := by omega
        refine jx_ld (pc' := 203) (l' := L7) (st' := [.ref 66]) rfl (jl_aloadn gL7_0) ?_
        refine jx_ar (pc' := 205) (st' := [.int (i32 (31)), .ref 66]) rfl rfl rfl rfl ?_
        refine jx_ar (pc' := 206) (st' := [.int (i32 (0)), .int (i32 (31)), .ref 66]) rfl rfl rfl rfl ?_
        refine jx_ar (pc' := 207) (st' := [.int (i32 (0)), .int (i32 (0)), .int (i32 (31)), .ref 66]) rfl rfl rfl rfl ?_
        refine jx_ar (pc' := 208) (st' := [.int (i32 (0)), .int (i32 (0)), .int (i32 (0)), .int (i32 (31)), .ref 66]) rfl rfl rfl rfl ?_
        refine jx_ar (pc' := 209) (st' := [.int (i32 (0)), .int (i32 (0)), .int (i32 (0)), .int (i32 (0)), .int (i32 (31)), .ref 66]) rfl rfl rfl rfl ?_
        refine jx_vr (pc' := 212) (as := [.int (i32 (31)), .int (i32 (0)), .int (i32 (0)), .int (i32 (0)), .int (i32 (0))]) (st := []) rfl rfl rfl rfl ⟨rfl, rfl, Nat.le_of_ble_eq_true rfl⟩ rfl rfl (c_node_o (dd := d) (hd := by omega) (hW := hW448) (kind := 31) (a := 0) (b := 0) (c := 0) (e := 0) (nd := nd) (e_nd := show G444 31 = nd from ((hF449.1 31 rfl).trans (e_nd))) (ec := ec) (e_ec := show ecn A445 (G444 31) = ec from ec460)  (h_kind := ⟨(by decide), (by decide)⟩) (h_a := ⟨(by decide), (by decide)⟩) (h_b := ⟨(by decide), (by decide)⟩) (h_c := ⟨(by decide), (by decide)⟩) (h_e := ⟨(by decide), (by decide)⟩)  (p_0 := by omega) (p_1 := by omega) (p_2 := by omega)) (fun o V' hq => ?_)
        obtain ⟨G462, A463, nd2_464, ec2_465, rfl, rfl, hW466, hF467, hQ468, e469, e470, p471, p472, p473, -⟩ := hq
        have hF475 := Fr_tr hF456 hF467 (Fr_sub (by decide)) (Fr_sub (by decide))
        have hP476 := Pf_tr hP457 hQ468 (by omega)
        have hS477 := Fx_f hS458 hF467 (by decide)
        have hV478 := Fx_f hV459 hF467 (by decide)
        have bnd2_464 : (0 : Int) ≤ nd2_464 ∧ nd2_464 ≤ 6999 := e469 ▸ hW466.1 31
        refine .inr ⟨_, rfl, ?_⟩
        refine jx_ld (pc' := 213) (l' := jSto1 L7 2 (.int (i32 (nd)))) (st' := []) rfl rfl ?_
        obtain ⟨L479, eL479⟩ : ∃ q, q = jSto1 L7 2 (.int (i32 (nd))) := ⟨_, rfl⟩
        rw [← eL479]
        have gL479_0 : jGet L479 0 = some (.ref 66) := eL479 ▸ jg_ne (by decide) gL7_0 rfl
        have gL479_1 : jGet L479 1 = some (.int (i32 (lv))) := eL479 ▸ jg_ne (by decide) gL7_1 rfl
        have gL479_3 : jGet L479 3 = some (.int (i32 (G 13))) := eL479 ▸ jg_ne (by decide) gL7_3 rfl
        have gL479_2 : jGet L479 2 = some (.int (i32 (nd))) := eL479 ▸ jg_eq
        refine jx_ld (pc' := 214) (l' := L479) (st' := [.ref 66]) rfl (jl_aloadn gL479_0) ?_
        refine jr_get (pc' := 217) (i := 34) (v := .ref 84) rfl rfl (by decide) rfl rfl ?_
        refine jx_ld (pc' := 218) (l' := L479) (st' := [.int (i32 (nd)), .ref 84]) rfl (jl_iloadn gL479_2) ?_
        refine jx_ld (pc' := 219) (l' := L479) (st' := [.ref 66, .int (i32 (nd)), .ref 84]) rfl (jl_aloadn gL479_0) ?_
        refine jx_vr (pc' := 222) (as := []) (st := [.int (i32 (nd)), .ref 84]) rfl rfl rfl rfl ⟨rfl, rfl, Nat.le_of_ble_eq_true rfl⟩ rfl rfl (REw_all X 9 (dd := d) (hd := by omega) (hW := hW466)  (ln := ln) (e_ln := show G462 9 = ln from ((hF467.1 9 rfl).trans ((hF449.1 9 rfl).trans (e_ln)))) (le := le) (e_le := show A463 4 (ln).toNat = le from (congrFun ((hF467.2 4 rfl).trans (hF449.2 4 rfl)) _).trans (e_le)) (at0 := at2_446) (e_at0 := show G462 10 = at2_446 from ((hF467.1 10 rfl).trans (e450))) (fk := fk) (e_fk := show G462 16 = fk from ((hF467.1 16 rfl).trans ((hF449.1 16 rfl).trans (e_fk)))) (op0 := op0) (e_op0 := show G462 15 = op0 from ((hF467.1 15 rfl).trans ((hF449.1 15 rfl).trans (e_op0)))) (nd := nd2_464) (e_nd := show G462 31 = nd2_464 from (e469)) (tk0 := tk2_447) (e_tk0 := show G462 11 = tk2_447 from ((hF467.1 11 rfl).trans (e451))) (ec := ec2_465) (e_ec := show ecn A463 (G462 31) = ec2_465 from e470) (i_SV := (SV_fx i_SV e_vi (show G462 29 = vi from ((hF467.1 29 rfl).trans ((hF449.1 29 rfl).trans (e_vi)))) (by omega) hV478))   (p_0 := by omega) (p_1 := by omega) (p_2 := by omega) (p_3 := by omega) (p_4 := by omega) (p_5 := by omega)) (fun o V' hq => ?_)
        obtain ⟨G480, A481, r482, at2_483, fk2_484, op2_485, nd2_486, tk2_487, ec2_488, rfl, rfl, hW489, hF490, hQ491, b492, e493, e494, e495, e496, e497, e498, p499, p500, p501, p502, p503, p504, q505⟩ := hq
        have hF506 := Fr_tr hF475 hF490 (Fr_sub (by decide)) (Fr_sub (by decide))
        have hP507 := Pf_tr hP476 hQ491 (by omega)
        have hS508 := Fx_f hS477 hF490 (by decide)
        have hV509 := Fx_f hV478 hF490 (by decide)
        have sf510 : ND A481 (nd) (31) (0) (0) (0) (0) (0) (0) := ND_ag (by omega) (Ag_pf hQ491 (by omega)) p473
        have bat2_483 : (0 : Int) ≤ at2_483 ∧ at2_483 ≤ 3002 := e493 ▸ hW489.1 10
        have bfk2_484 : (0 : Int) ≤ fk2_484 ∧ fk2_484 ≤ 6 := e494 ▸ hW489.1 16
        have bop2_485 : (-2147483648 : Int) ≤ op2_485 ∧ op2_485 ≤ 2147483647 := e495 ▸ hW489.1 15
        have bnd2_486 : (0 : Int) ≤ nd2_486 ∧ nd2_486 ≤ 6999 := e496 ▸ hW489.1 31
        have ztk2_487 := tz_b tk2_487
        have btk2_487 : (0 : Int) ≤ tk2_487 ∧ tk2_487 ≤ 5 := e497 ▸ hW489.1 11
        refine .inr ⟨_, rfl, ?_⟩
        rcases q505 with ⟨a511, a512, a513, a514, a515, a516⟩ | ⟨a517, a518, a519⟩ | ⟨a520, a521, a522, a523, a524, a525⟩
        · have _q : True := trivial
          exfalso
          omega
        · have _q : True := trivial
          refine jr_st (pc' := 223) (i := 17) (m := 7000) (z := nd) (y := r482) rfl (by decide) rfl (by decide) (by omega) (by omega) rfl ?_
          have hW527 : Wk G480 (uA A481 17 (nd).toNat (r482)) := Wk_a hW489 (show (-2147483648 : Int) ≤ r482 by omega) (show r482 ≤ (2147483647 : Int) by omega)
          have hF528 := Fr_a (z := r482) (k := 17) (n := (nd).toNat) hF506 (by decide)
          obtain ⟨A526, eA526⟩ : ∃ q, q = uA A481 17 (nd).toNat (r482) := ⟨_, rfl⟩
          rw [← eA526]
          rw [← eA526] at hW527 hF528
          have q529 : A526 17 (nd).toNat = r482 := by rw [eA526]; exact uA_eq
          have hP530 : Pf nd A A526 := eA526 ▸ Pf_a hP507 (z := nd) (by omega) (by omega)
          have hS531 : Fx sr (sy) A A526 := eA526 ▸ Fx_n hS508 rfl
          have hV532 : Fx [14] (vi) A A526 := eA526 ▸ Fx_n hV509 rfl
          have sf533 : ND A526 (nd) (31) (r482) (0) (0) (0) (0) (0) := ND_a eA526 sf510
          have ec534 : ecn A526 (G480 31) = ec2_488 := (ecn_e ((congrFun eA526 15).trans (uA_ne (by decide)))).trans e498
          refine jx_ld (pc' := 224) (l' := L479) (st' := [.ref 66]) rfl (jl_aloadn gL479_0) ?_
          refine jx_vr (pc' := 227) (as := []) (st := []) rfl rfl rfl rfl ⟨rfl, rfl, Nat.le_of_ble_eq_true rfl⟩ rfl rfl (c_endLine (dd := d) (hd := by omega) (hW := hW527)  (ln := ln) (e_ln := show G480 9 = ln from ((hF490.1 9 rfl).trans ((hF467.1 9 rfl).trans ((hF449.1 9 rfl).trans (e_ln))))) (li := li) (e_li := show G480 3 = li from ((hF490.1 3 rfl).trans ((hF467.1 3 rfl).trans ((hF449.1 3 rfl).trans (e_li))))) (fk := fk2_484) (e_fk := show G480 16 = fk2_484 from (e494)) (tk0 := tk2_487) (e_tk0 := show G480 11 = tk2_487 from (e497))    (p_0 := by omega)) (fun o V' hq => ?_)
          obtain ⟨G535, A536, ln2_537, fk2_538, rfl, rfl, hW539, hF540, e541, e542, q543⟩ := hq
          have hF544 := Fr_tr hF528 hF540 (Fr_sub (by decide)) (Fr_sub (by decide))
          have hP545 := Pf_f hP530 hF540 (by decide)
          have hS546 := Fx_f hS531 hF540 (by decide)
          have hV547 := Fx_f hV532 hF540 (by decide)
          have sf548 : ND A536 (nd) (31) (r482) (0) (0) (0) (0) (0) := ND_ag (by omega) (Ag_fr hF540 (by decide)) sf533
          have ec549 : ecn A536 (G535 31) = ec2_488 := (ecn_f (hF540.2 15 rfl) (hF540.1 31 rfl)).trans ec534
          have bln2_537 : (0 : Int) ≤ ln2_537 ∧ ln2_537 ≤ 3000 := e541 ▸ hW539.1 9
          have bfk2_538 : (0 : Int) ≤ fk2_538 ∧ fk2_538 ≤ 6 := e542 ▸ hW539.1 16
          refine .inl ⟨rfl, ?_⟩
          rcases q543 with ⟨a550, a551, a552, a553, a554⟩ | ⟨a555, a556⟩
          · have _q : True := trivial
            exfalso
            omega
          · have _q : True := trivial
            refine jx_ld (pc' := 228) (l' := L479) (st' := [.ref 66]) rfl (jl_aloadn gL479_0) ?_
            refine jr_get (pc' := 231) (i := 38) (v := .ref 88) rfl rfl (by decide) rfl rfl ?_
            refine jx_ld (pc' := 232) (l' := L479) (st' := [.int (i32 (nd)), .ref 88]) rfl (jl_iloadn gL479_2) ?_
            refine jx_ld (pc' := 233) (l' := L479) (st' := [.ref 66, .int (i32 (nd)), .ref 88]) rfl (jl_aloadn gL479_0) ?_
            refine jx_vr (pc' := 236) (as := []) (st := [.int (i32 (nd)), .ref 88]) rfl rfl rfl rfl ⟨rfl, rfl, Nat.le_of_ble_eq_true rfl⟩ rfl rfl (c_bad (dd := d) (hd := by omega) (hW := hW539)  (fk := fk2_538) (e_fk := show G535 16 = fk2_538 from (e542))    ) (fun o V' hq => ?_)
            obtain ⟨r557, rfl, rfl, b558, q559⟩ := hq
            refine .inr ⟨_, rfl, ?_⟩
            rcases q559 with ⟨rfl, a560⟩ | ⟨rfl, a561⟩
            · have _q : True := trivial
              refine jx_if_eq (pc' := 239) (tg := 243) rfl rfl rfl (by decide) (by decide) (fun h562 => ?_) (fun h562 => ?_)
              · have _q := h562
                exact absurd h562 (by omega)
              · have _q := h562
                refine jx_ar (pc' := 240) (st' := [.int (i32 (0)), .int (i32 (nd)), .ref 88]) rfl rfl rfl rfl ?_
                refine jx_go (tg := 250) rfl rfl ?_
                refine jr_st (pc' := 251) (i := 21) (m := 7000) (z := nd) (y := 0) rfl (by decide) rfl (by decide) (by omega) (by omega) rfl ?_
                have hW564 : Wk G535 (uA A536 21 (nd).toNat (0)) := Wk_a hW539 (show (-2147483648 : Int) ≤ 0 by omega) (show 0 ≤ (2147483647 : Int) by omega)
                have hF565 := Fr_a (z := 0) (k := 21) (n := (nd).toNat) hF544 (by decide)
                obtain ⟨A563, eA563⟩ : ∃ q, q = uA A536 21 (nd).toNat (0) := ⟨_, rfl⟩
                rw [← eA563]
                rw [← eA563] at hW564 hF565
                have q566 : A563 21 (nd).toNat = 0 := by rw [eA563]; exact uA_eq
                have hP567 : Pf nd A A563 := eA563 ▸ Pf_a hP545 (z := nd) (by omega) (by omega)
                have hS568 : Fx sr (sy) A A563 := eA563 ▸ Fx_n hS546 rfl
                have hV569 : Fx [14] (vi) A A563 := eA563 ▸ Fx_n hV547 rfl
                have sf570 : ND A563 (nd) (31) (r482) (0) (0) (0) (0) (0) := ND_f eA563 sf548
                have ec571 : ecn A563 (G535 31) = ec2_488 := (ecn_e ((congrFun eA563 15).trans (uA_ne (by decide)))).trans ec549
                refine jx_ld (pc' := 252) (l' := L479) (st' := [.int (i32 (nd))]) rfl (jl_iloadn gL479_2) ?_
                refine jx_rt (v := some (.int (i32 (nd)))) rfl rfl rfl rfl rfl rfl ?_
                exact ⟨_, _, _, ln2_537, at2_483, fk2_538, nd2_486, sy, na, vi, A 3 (ln2_537).toNat, ec2_488, rfl, rfl, hW564, hF565, hP567, hS568, hV569, by omega, (e541), ((hF540.1 10 rfl).trans (e493)), (e542), ((hF540.1 31 rfl).trans (e496)), ((hF540.1 19 rfl).trans ((hF490.1 19 rfl).trans ((hF467.1 19 rfl).trans ((hF449.1 19 rfl).trans (e_sy))))), ((hF540.1 28 rfl).trans ((hF490.1 28 rfl).trans ((hF467.1 28 rfl).trans ((hF449.1 28 rfl).trans (e_na))))), ((hF540.1 29 rfl).trans ((hF490.1 29 rfl).trans ((hF467.1 29 rfl).trans ((hF449.1 29 rfl).trans (e_vi))))), (congrFun (((congrFun eA563 3).trans (uA_ne (by decide))).trans ((hF540.2 3 rfl).trans (((congrFun eA526 3).trans (uA_ne (by decide))).trans ((hF490.2 3 rfl).trans ((hF467.2 3 rfl).trans (hF449.2 3 rfl)))))) _), ec571, by omega, by omega, by omega, by omega, by omega, by omega, by omega, by omega, by omega, by omega, by first | exact Or.inl (⟨by omega, by omega⟩)⟩
            · have _q : True := trivial
              exfalso
              omega
        · have _q : True := trivial
          refine jr_st (pc' := 223) (i := 17) (m := 7000) (z := nd) (y := r482) rfl (by decide) rfl (by decide) (by omega) (by omega) rfl ?_
          have hW573 : Wk G480 (uA A481 17 (nd).toNat (r482)) := Wk_a hW489 (show (-2147483648 : Int) ≤ r482 by omega) (show r482 ≤ (2147483647 : Int) by omega)
          have hF574 := Fr_a (z := r482) (k := 17) (n := (nd).toNat) hF506 (by decide)
          obtain ⟨A572, eA572⟩ : ∃ q, q = uA A481 17 (nd).toNat (r482) := ⟨_, rfl⟩
          rw [← eA572]
          rw [← eA572] at hW573 hF574
          have q575 : A572 17 (nd).toNat = r482 := by rw [eA572]; exact uA_eq
          have hP576 : Pf nd A A572 := eA572 ▸ Pf_a hP507 (z := nd) (by omega) (by omega)
          have hS577 : Fx sr (sy) A A572 := eA572 ▸ Fx_n hS508 rfl
          have hV578 : Fx [14] (vi) A A572 := eA572 ▸ Fx_n hV509 rfl
          have sf579 : ND A572 (nd) (31) (r482) (0) (0) (0) (0) (0) := ND_a eA572 sf510
          have sf580 : wE A572 Vs sb (2 * 9 + 2) (r482) (nd2_464) (nd2_486) := wE_ag (by omega) (Sg_ne eA572 rfl) (Ag_st eA572 (by omega) (by omega)) a523
          have ec581 : ecn A572 (G480 31) = ec2_488 := (ecn_e ((congrFun eA572 15).trans (uA_ne (by decide)))).trans e498
          refine jx_ld (pc' := 224) (l' := L479) (st' := [.ref 66]) rfl (jl_aloadn gL479_0) ?_
          refine jx_vr (pc' := 227) (as := []) (st := []) rfl rfl rfl rfl ⟨rfl, rfl, Nat.le_of_ble_eq_true rfl⟩ rfl rfl (c_endLine (dd := d) (hd := by omega) (hW := hW573)  (ln := ln) (e_ln := show G480 9 = ln from ((hF490.1 9 rfl).trans ((hF467.1 9 rfl).trans ((hF449.1 9 rfl).trans (e_ln))))) (li := li) (e_li := show G480 3 = li from ((hF490.1 3 rfl).trans ((hF467.1 3 rfl).trans ((hF449.1 3 rfl).trans (e_li))))) (fk := fk2_484) (e_fk := show G480 16 = fk2_484 from (e494)) (tk0 := tk2_487) (e_tk0 := show G480 11 = tk2_487 from (e497))    (p_0 := by omega)) (fun o V' hq => ?_)
          obtain ⟨G582, A583, ln2_584, fk2_585, rfl, rfl, hW586, hF587, e588, e589, q590⟩ := hq
          have hF591 := Fr_tr hF574 hF587 (Fr_sub (by decide)) (Fr_sub (by decide))
          have hP592 := Pf_f hP576 hF587 (by decide)
          have hS593 := Fx_f hS577 hF587 (by decide)
          have hV594 := Fx_f hV578 hF587 (by decide)
          have sf595 : ND A583 (nd) (31) (r482) (0) (0) (0) (0) (0) := ND_ag (by omega) (Ag_fr hF587 (by decide)) sf579
          have sf596 : wE A583 Vs sb (2 * 9 + 2) (r482) (nd2_464) (nd2_486) := wE_ag (by omega) (Sg_fr hF587 (by decide)) (Ag_fr hF587 (by decide)) sf580
          have ec597 : ecn A583 (G582 31) = ec2_488 := (ecn_f (hF587.2 15 rfl) (hF587.1 31 rfl)).trans ec581
          have bln2_584 : (0 : Int) ≤ ln2_584 ∧ ln2_584 ≤ 3000 := e588 ▸ hW586.1 9
          have bfk2_585 : (0 : Int) ≤ fk2_585 ∧ fk2_585 ≤ 6 := e589 ▸ hW586.1 16
          refine .inl ⟨rfl, ?_⟩
          rcases q590 with ⟨a598, a599, a600, a601, a602⟩ | ⟨a603, a604⟩
          · have _q : True := trivial
            have b605 : (0 : Int) ≤ A 3 (ln2_584).toNat ∧ A 3 (ln2_584).toNat ≤ 3000 := hW.2 3 _
            have lt606 : ln2_584 < li → le < A 3 (ln2_584).toNat := fun hh => LT_nx (LT_ext (((hF587.1 3 rfl).trans ((hF490.1 3 rfl).trans ((hF467.1 3 rfl).trans (hF449.1 3 rfl))))) (((hF587.2 3 rfl).trans (((congrFun eA572 3).trans (uA_ne (by decide))).trans ((hF490.2 3 rfl).trans ((hF467.2 3 rfl).trans (hF449.2 3 rfl)))))) (((hF587.2 4 rfl).trans (((congrFun eA572 4).trans (uA_ne (by decide))).trans ((hF490.2 4 rfl).trans ((hF467.2 4 rfl).trans (hF449.2 4 rfl)))))) i_LT) (show G582 3 = li from ((hF587.1 3 rfl).trans ((hF490.1 3 rfl).trans ((hF467.1 3 rfl).trans ((hF449.1 3 rfl).trans (e_li)))))) (show A583 4 (ln).toNat = le from (congrFun ((hF587.2 4 rfl).trans (((congrFun eA572 4).trans (uA_ne (by decide))).trans ((hF490.2 4 rfl).trans ((hF467.2 4 rfl).trans (hF449.2 4 rfl))))) _).trans (e_le)) (show A583 3 (ln2_584).toNat = A 3 (ln2_584).toNat from (congrFun ((hF587.2 3 rfl).trans (((congrFun eA572 3).trans (uA_ne (by decide))).trans ((hF490.2 3 rfl).trans ((hF467.2 3 rfl).trans (hF449.2 3 rfl))))) _)) (show ln2_584 = ln + 1 by omega) (by omega) hh
            refine jx_ld (pc' := 228) (l' := L479) (st' := [.ref 66]) rfl (jl_aloadn gL479_0) ?_
            refine jr_get (pc' := 231) (i := 38) (v := .ref 88) rfl rfl (by decide) rfl rfl ?_
            refine jx_ld (pc' := 232) (l' := L479) (st' := [.int (i32 (nd)), .ref 88]) rfl (jl_iloadn gL479_2) ?_
            refine jx_ld (pc' := 233) (l' := L479) (st' := [.ref 66, .int (i32 (nd)), .ref 88]) rfl (jl_aloadn gL479_0) ?_
            refine jx_vr (pc' := 236) (as := []) (st := [.int (i32 (nd)), .ref 88]) rfl rfl rfl rfl ⟨rfl, rfl, Nat.le_of_ble_eq_true rfl⟩ rfl rfl (c_bad (dd := d) (hd := by omega) (hW := hW586)  (fk := fk2_585) (e_fk := show G582 16 = fk2_585 from (e589))    ) (fun o V' hq => ?_)
            obtain ⟨r607, rfl, rfl, b608, q609⟩ := hq
            refine .inr ⟨_, rfl, ?_⟩
            rcases q609 with ⟨rfl, a610⟩ | ⟨rfl, a611⟩
            · have _q : True := trivial
              exfalso
              omega
            · have _q : True := trivial
              refine jx_if_eq (pc' := 239) (tg := 243) rfl rfl rfl (by decide) (by decide) (fun h612 => ?_) (fun h612 => ?_)
              · have _q := h612
                refine jx_ld (pc' := 244) (l' := L479) (st' := [.ref 66, .int (i32 (nd)), .ref 88]) rfl (jl_aloadn gL479_0) ?_
                refine jx_ld (pc' := 245) (l' := L479) (st' := [.int (i32 (lv)), .ref 66, .int (i32 (nd)), .ref 88]) rfl (jl_iloadn gL479_1) ?_
                refine jx_ar (pc' := 246) (st' := [.int (i32 (1)), .int (i32 (lv)), .ref 66, .int (i32 (nd)), .ref 88]) rfl rfl rfl rfl ?_
                refine jx_add (pc' := 247) rfl rfl ?_
                refine jx_vr (pc' := 250) (as := [.int (i32 ((lv + 1)))]) (st := [.int (i32 (nd)), .ref 88]) rfl rfl rfl rfl ⟨rfl, rfl, Nat.le_of_ble_eq_true rfl⟩ rfl rfl (hP (dd := d) (hd := by omega) (hW := hW586) (lv := (lv + 1)) (at0 := at2_483) (ln := ln2_584) (e_ln := show G582 9 = ln2_584 from (e588)) (li := li) (e_li := show G582 3 = li from ((hF587.1 3 rfl).trans ((hF490.1 3 rfl).trans ((hF467.1 3 rfl).trans ((hF449.1 3 rfl).trans (e_li)))))) (fk := fk2_585) (e_fk := show G582 16 = fk2_585 from (e589)) (nd := nd2_486) (e_nd := show G582 31 = nd2_486 from ((hF587.1 31 rfl).trans (e496))) (sy := sy) (e_sy := show G582 19 = sy from ((hF587.1 19 rfl).trans ((hF490.1 19 rfl).trans ((hF467.1 19 rfl).trans ((hF449.1 19 rfl).trans (e_sy)))))) (na := na) (e_na := show G582 28 = na from ((hF587.1 28 rfl).trans ((hF490.1 28 rfl).trans ((hF467.1 28 rfl).trans ((hF449.1 28 rfl).trans (e_na)))))) (vi := vi) (e_vi := show G582 29 = vi from ((hF587.1 29 rfl).trans ((hF490.1 29 rfl).trans ((hF467.1 29 rfl).trans ((hF449.1 29 rfl).trans (e_vi)))))) (lf := A 3 (ln2_584).toNat) (e_lf := show A583 3 (ln2_584).toNat = A 3 (ln2_584).toNat from (congrFun ((hF587.2 3 rfl).trans (((congrFun eA572 3).trans (uA_ne (by decide))).trans ((hF490.2 3 rfl).trans ((hF467.2 3 rfl).trans (hF449.2 3 rfl))))) _)) (ac := at2_483) (e_ac := show G582 10 = at2_483 from ((hF587.1 10 rfl).trans (e493))) (ec := ec2_488) (e_ec := show ecn A583 (G582 31) = ec2_488 from ec597) (i_LT := (LT_ext (((hF587.1 3 rfl).trans ((hF490.1 3 rfl).trans ((hF467.1 3 rfl).trans (hF449.1 3 rfl))))) (((hF587.2 3 rfl).trans (((congrFun eA572 3).trans (uA_ne (by decide))).trans ((hF490.2 3 rfl).trans ((hF467.2 3 rfl).trans (hF449.2 3 rfl)))))) (((hF587.2 4 rfl).trans (((congrFun eA572 4).trans (uA_ne (by decide))).trans ((hF490.2 4 rfl).trans ((hF467.2 4 rfl).trans (hF449.2 4 rfl)))))) i_LT)) (i_SV := (SV_fx i_SV e_vi (show G582 29 = vi from ((hF587.1 29 rfl).trans ((hF490.1 29 rfl).trans ((hF467.1 29 rfl).trans ((hF449.1 29 rfl).trans (e_vi)))))) (by omega) hV594)) (i_PQ := (PQ_fx i_PQ hS593 (by omega) (hF591.2 29 rfl) (hF591.2 30 rfl))) (hvb := hvb) (h_lv := ⟨(by omega), (by omega)⟩)  (p_0 := by omega) (p_1 := by omega) (p_2 := by omega) (p_3 := by omega) (p_4 := by omega) (p_5 := by omega) (p_6 := by omega) (p_7 := by omega) (p_8 := by omega) (p_9 := by omega) (p_10 := by omega)) (fun o V' hq => ?_)
                obtain ⟨G613, A614, r615, ln2_616, at2_617, fk2_618, nd2_619, sy2_620, na2_621, vi2_622, lf2_623, ec2_624, rfl, rfl, hW625, hF626, hQ627, hQ628, hQ629, b630, e631, e632, e633, e634, e635, e636, e637, e638, e639, p640, p641, p642, p643, p644, p645, p646, p647, p648, q649⟩ := hq
                have hF650 := Fr_tr hF591 hF626 (Fr_sub (by decide)) (Fr_sub (by decide))
                have k651 : A614 17 (nd).toNat = r482 := (hQ627 17 _ rfl (by omega)).trans (show A583 17 (nd).toNat = r482 from (congrFun (hF587.2 17 rfl) _).trans (q575))
                have hP652 := Pf_tr hP592 hQ627 (by omega)
                have hS653 := Fx_tr hS593 hQ628 (by omega)
                have hV654 := Fx_tr hV594 hQ629 (by omega)
                have sf655 : ND A614 (nd) (31) (r482) (0) (0) (0) (0) (0) := ND_ag (by omega) (Ag_pf hQ627 (by omega)) sf595
                have sf656 : wE A614 Vs sb (2 * 9 + 2) (r482) (nd2_464) (nd2_486) := wE_ag (by omega) (Fx_su hQ628 (by omega)) (Ag_pf hQ627 (by omega)) sf596
                have bln2_616 : (0 : Int) ≤ ln2_616 ∧ ln2_616 ≤ 3000 := e631 ▸ hW625.1 9
                have bat2_617 : (0 : Int) ≤ at2_617 ∧ at2_617 ≤ 3002 := e632 ▸ hW625.1 10
                have bfk2_618 : (0 : Int) ≤ fk2_618 ∧ fk2_618 ≤ 6 := e633 ▸ hW625.1 16
                have bnd2_619 : (0 : Int) ≤ nd2_619 ∧ nd2_619 ≤ 6999 := e634 ▸ hW625.1 31
                have bsy2_620 : (0 : Int) ≤ sy2_620 ∧ sy2_620 ≤ 202 := e635 ▸ hW625.1 19
                have bna2_621 : (0 : Int) ≤ na2_621 ∧ na2_621 ≤ 200 := e636 ▸ hW625.1 28
                have bvi2_622 : (0 : Int) ≤ vi2_622 ∧ vi2_622 ≤ 202 := e637 ▸ hW625.1 29
                have blf2_623 : (0 : Int) ≤ lf2_623 ∧ lf2_623 ≤ 3000 := e638 ▸ hW625.2 3 _
                refine .inr ⟨_, rfl, ?_⟩
                rcases q649 with ⟨a657, a658⟩ | ⟨a659, a660, a661, a662, a663, a664, a665, a666, a667⟩
                · have _q : True := trivial
                  refine jr_st (pc' := 251) (i := 21) (m := 7000) (z := nd) (y := r615) rfl (by decide) rfl (by decide) (by omega) (by omega) rfl ?_
                  have hW669 : Wk G613 (uA A614 21 (nd).toNat (r615)) := Wk_a hW625 (show (-2147483648 : Int) ≤ r615 by omega) (show r615 ≤ (2147483647 : Int) by omega)
                  have hF670 := Fr_a (z := r615) (k := 21) (n := (nd).toNat) hF650 (by decide)
                  obtain ⟨A668, eA668⟩ : ∃ q, q = uA A614 21 (nd).toNat (r615) := ⟨_, rfl⟩
                  rw [← eA668]
                  rw [← eA668] at hW669 hF670
                  have q671 : A668 21 (nd).toNat = r615 := by rw [eA668]; exact uA_eq
                  have hP672 : Pf nd A A668 := eA668 ▸ Pf_a hP652 (z := nd) (by omega) (by omega)
                  have hS673 : Fx sr (sy) A A668 := eA668 ▸ Fx_n hS653 rfl
                  have hV674 : Fx [14] (vi) A A668 := eA668 ▸ Fx_n hV654 rfl
                  have sf675 : ND A668 (nd) (31) (r482) (0) (0) (0) (r615) (0) := ND_f eA668 sf655
                  have sf676 : wE A668 Vs sb (2 * 9 + 2) (r482) (nd2_464) (nd2_486) := wE_ag (by omega) (Sg_ne eA668 rfl) (Ag_st eA668 (by omega) (by omega)) sf656
                  have ec677 : ecn A668 (G613 31) = ec2_624 := (ecn_e ((congrFun eA668 15).trans (uA_ne (by decide)))).trans e639
                  refine jx_ld (pc' := 252) (l' := L479) (st' := [.int (i32 (nd))]) rfl (jl_iloadn gL479_2) ?_
                  refine jx_rt (v := some (.int (i32 (nd)))) rfl rfl rfl rfl rfl rfl ?_
                  exact ⟨_, _, _, ln2_616, at2_617, fk2_618, nd2_619, sy2_620, na2_621, vi2_622, lf2_623, ec2_624, rfl, rfl, hW669, hF670, hP672, hS673, hV674, by omega, (e631), (e632), (e633), (e634), (e635), (e636), (e637), (congrFun ((congrFun eA668 3).trans (uA_ne (by decide))) _).trans (e638), ec677, by omega, by omega, by omega, by omega, by omega, by omega, by omega, by omega, by omega, by omega, by first | exact Or.inl (⟨by omega, by omega⟩)⟩
                · have _q : True := trivial
                  refine jr_st (pc' := 251) (i := 21) (m := 7000) (z := nd) (y := r615) rfl (by decide) rfl (by decide) (by omega) (by omega) rfl ?_
                  have hW679 : Wk G613 (uA A614 21 (nd).toNat (r615)) := Wk_a hW625 (show (-2147483648 : Int) ≤ r615 by omega) (show r615 ≤ (2147483647 : Int) by omega)
                  have hF680 := Fr_a (z := r615) (k := 21) (n := (nd).toNat) hF650 (by decide)
                  obtain ⟨A678, eA678⟩ : ∃ q, q = uA A614 21 (nd).toNat (r615) := ⟨_, rfl⟩
                  rw [← eA678]
                  rw [← eA678] at hW679 hF680
                  have q681 : A678 21 (nd).toNat = r615 := by rw [eA678]; exact uA_eq
                  have hP682 : Pf nd A A678 := eA678 ▸ Pf_a hP652 (z := nd) (by omega) (by omega)
                  have hS683 : Fx sr (sy) A A678 := eA678 ▸ Fx_n hS653 rfl
                  have hV684 : Fx [14] (vi) A A678 := eA678 ▸ Fx_n hV654 rfl
                  have sf685 : ND A678 (nd) (31) (r482) (0) (0) (0) (r615) (0) := ND_f eA678 sf655
                  have sf686 : wE A678 Vs sb (2 * 9 + 2) (r482) (nd2_464) (nd2_486) := wE_ag (by omega) (Sg_ne eA678 rfl) (Ag_st eA678 (by omega) (by omega)) sf656
                  have sf687 : wP A678 (sy2_620) pb (k) (Vs) (r615) (nd2_486) (nd2_619) (sy) (sy2_620) := wP_ag (Sg_ne eA678 rfl) (Qg_ne eA678 rfl) (by omega) (by omega) (Ax_ag (Ag_st eA678 (by omega) (by omega))) a665
                  have sf688 : NX A678 (r615) := NX_r eA678 (by decide) a666
                  have ec689 : ecn A678 (G613 31) = ec2_624 := (ecn_e ((congrFun eA678 15).trans (uA_ne (by decide)))).trans e639
                  refine jx_ld (pc' := 252) (l' := L479) (st' := [.int (i32 (nd))]) rfl (jl_iloadn gL479_2) ?_
                  refine jx_rt (v := some (.int (i32 (nd)))) rfl rfl rfl rfl rfl rfl ?_
                  exact ⟨_, _, _, ln2_616, at2_617, fk2_618, nd2_619, sy2_620, na2_621, vi2_622, lf2_623, ec2_624, rfl, rfl, hW679, hF680, hP682, hS683, hV684, by omega, (e631), (e632), (e633), (e634), (e635), (e636), (e637), (congrFun ((congrFun eA678 3).trans (uA_ne (by decide))) _).trans (e638), ec689, by omega, by omega, by omega, by omega, by omega, by omega, by omega, by omega, by omega, by omega, by first | exact Or.inr ((⟨by omega, by omega, by omega, by omega, by omega, by omega, by omega, (wS_while (u := nd2_486) sf685 (by omega) (by omega) (wE_sb (by omega) (wE_mono (by omega) (by omega) (by omega) sf686)) (wP_eq sf687 (by omega) rfl (by omega) (by omega) (by omega) (by omega) (by omega) (by omega))), (NX_nd sf685), by omega⟩))⟩
              · have _q := h612
                exact absurd h612 (by omega)
          · have _q : True := trivial
            refine jx_ld (pc' := 228) (l' := L479) (st' := [.ref 66]) rfl (jl_aloadn gL479_0) ?_
            refine jr_get (pc' := 231) (i := 38) (v := .ref 88) rfl rfl (by decide) rfl rfl ?_
            refine jx_ld (pc' := 232) (l' := L479) (st' := [.int (i32 (nd)), .ref 88]) rfl (jl_iloadn gL479_2) ?_
            refine jx_ld (pc' := 233) (l' := L479) (st' := [.ref 66, .int (i32 (nd)), .ref 88]) rfl (jl_aloadn gL479_0) ?_
            refine jx_vr (pc' := 236) (as := []) (st := [.int (i32 (nd)), .ref 88]) rfl rfl rfl rfl ⟨rfl, rfl, Nat.le_of_ble_eq_true rfl⟩ rfl rfl (c_bad (dd := d) (hd := by omega) (hW := hW586)  (fk := fk2_585) (e_fk := show G582 16 = fk2_585 from (e589))    ) (fun o V' hq => ?_)
            obtain ⟨r690, rfl, rfl, b691, q692⟩ := hq
            refine .inr ⟨_, rfl, ?_⟩
            rcases q692 with ⟨rfl, a693⟩ | ⟨rfl, a694⟩
            · have _q : True := trivial
              refine jx_if_eq (pc' := 239) (tg := 243) rfl rfl rfl (by decide) (by decide) (fun h695 => ?_) (fun h695 => ?_)
              · have _q := h695
                exact absurd h695 (by omega)
              · have _q := h695
                refine jx_ar (pc' := 240) (st' := [.int (i32 (0)), .int (i32 (nd)), .ref 88]) rfl rfl rfl rfl ?_
                refine jx_go (tg := 250) rfl rfl ?_
                refine jr_st (pc' := 251) (i := 21) (m := 7000) (z := nd) (y := 0) rfl (by decide) rfl (by decide) (by omega) (by omega) rfl ?_
                have hW697 : Wk G582 (uA A583 21 (nd).toNat (0)) := Wk_a hW586 (show (-2147483648 : Int) ≤ 0 by omega) (show 0 ≤ (2147483647 : Int) by omega)
                have hF698 := Fr_a (z := 0) (k := 21) (n := (nd).toNat) hF591 (by decide)
                obtain ⟨A696, eA696⟩ : ∃ q, q = uA A583 21 (nd).toNat (0) := ⟨_, rfl⟩
                rw [← eA696]
                rw [← eA696] at hW697 hF698
                have q699 : A696 21 (nd).toNat = 0 := by rw [eA696]; exact uA_eq
                have hP700 : Pf nd A A696 := eA696 ▸ Pf_a hP592 (z := nd) (by omega) (by omega)
                have hS701 : Fx sr (sy) A A696 := eA696 ▸ Fx_n hS593 rfl
                have hV702 : Fx [14] (vi) A A696 := eA696 ▸ Fx_n hV594 rfl
                have sf703 : ND A696 (nd) (31) (r482) (0) (0) (0) (0) (0) := ND_f eA696 sf595
                have sf704 : wE A696 Vs sb (2 * 9 + 2) (r482) (nd2_464) (nd2_486) := wE_ag (by omega) (Sg_ne eA696 rfl) (Ag_st eA696 (by omega) (by omega)) sf596
                have ec705 : ecn A696 (G582 31) = ec2_488 := (ecn_e ((congrFun eA696 15).trans (uA_ne (by decide)))).trans ec597
                refine jx_ld (pc' := 252) (l' := L479) (st' := [.int (i32 (nd))]) rfl (jl_iloadn gL479_2) ?_
                refine jx_rt (v := some (.int (i32 (nd)))) rfl rfl rfl rfl rfl rfl ?_
                exact ⟨_, _, _, ln2_584, at2_483, fk2_585, nd2_486, sy, na, vi, A 3 (ln2_584).toNat, ec2_488, rfl, rfl, hW697, hF698, hP700, hS701, hV702, by omega, (e588), ((hF587.1 10 rfl).trans (e493)), (e589), ((hF587.1 31 rfl).trans (e496)), ((hF587.1 19 rfl).trans ((hF490.1 19 rfl).trans ((hF467.1 19 rfl).trans ((hF449.1 19 rfl).trans (e_sy))))), ((hF587.1 28 rfl).trans ((hF490.1 28 rfl).trans ((hF467.1 28 rfl).trans ((hF449.1 28 rfl).trans (e_na))))), ((hF587.1 29 rfl).trans ((hF490.1 29 rfl).trans ((hF467.1 29 rfl).trans ((hF449.1 29 rfl).trans (e_vi))))), (congrFun (((congrFun eA696 3).trans (uA_ne (by decide))).trans ((hF587.2 3 rfl).trans (((congrFun eA572 3).trans (uA_ne (by decide))).trans ((hF490.2 3 rfl).trans ((hF467.2 3 rfl).trans (hF449.2 3 rfl)))))) _), ec705, by omega, by omega, by omega, by omega, by omega, by omega, by omega, by omega, by omega, by omega, by first | exact Or.inl (⟨by omega, by omega⟩)⟩
            · have _q : True := trivial
              exfalso
              omega
      · refine jx_swe (z := 7) (tg := 88) h8 rfl rfl rfl rfl ?_
        refine jx_ld (pc' := 89) (l' := L7) (st' := [.ref 66]) rfl (jl_aloadn gL7_0) ?_
        refine jx_ld (pc' := 90) (l' := L7) (st' := [.int (i32 (G 13)), .ref 66]) rfl (jl_iloadn gL7_3) ?_
        refine jx_ar (pc' := 92) (st' := [.int (i32 (7)), .int (i32 (G 13)), .ref 66]) rfl rfl rfl rfl ?_
        refine jx_icmp_ne (pc' := 95) (tg := 100) rfl rfl rfl (Int.le_trans (by decide : (-2147483648 : Int) ≤ -2147483648) b6.1) (Int.le_trans b6.2 (by decide : (2147483647 : Int) ≤ 2147483647)) (by decide) (by decide) (fun h706 => ?_) (fun h706 => ?_)
        · have _q := h706
          refine jx_ar (pc' := 102) (st' := [.int (i32 (21)), .ref 66]) rfl rfl rfl rfl ?_
          refine jx_ar (pc' := 103) (st' := [.int (i32 (0)), .int (i32 (21)), .ref 66]) rfl rfl rfl rfl ?_
          refine jx_ar (pc' := 104) (st' := [.int (i32 (0)), .int (i32 (0)), .int (i32 (21)), .ref 66]) rfl rfl rfl rfl ?_
          refine jx_ar (pc' := 105) (st' := [.int (i32 (0)), .int (i32 (0)), .int (i32 (0)), .int (i32 (21)), .ref 66]) rfl rfl rfl rfl ?_
          refine jx_ar (pc' := 106) (st' := [.int (i32 (0)), .int (i32 (0)), .int (i32 (0)), .int (i32 (0)), .int (i32 (21)), .ref 66]) rfl rfl rfl rfl ?_
          refine jx_vr (pc' := 109) (as := [.int (i32 (21)), .int (i32 (0)), .int (i32 (0)), .int (i32 (0)), .int (i32 (0))]) (st := []) rfl rfl rfl rfl ⟨rfl, rfl, Nat.le_of_ble_eq_true rfl⟩ rfl rfl (c_node_o (dd := d) (hd := by omega) (hW := hW) (kind := 21) (a := 0) (b := 0) (c := 0) (e := 0) (nd := nd) (e_nd := show G 31 = nd from (e_nd)) (ec := ec) (e_ec := show ecn A (G 31) = ec from e_ec)  (h_kind := ⟨(by decide), (by decide)⟩) (h_a := ⟨(by decide), (by decide)⟩) (h_b := ⟨(by decide), (by decide)⟩) (h_c := ⟨(by decide), (by decide)⟩) (h_e := ⟨(by decide), (by decide)⟩)  (p_0 := by omega) (p_1 := by omega) (p_2 := by omega)) (fun o V' hq => ?_)
          obtain ⟨G707, A708, nd2_709, ec2_710, rfl, rfl, hW711, hF712, hQ713, e714, e715, p716, p717, p718, -⟩ := hq
          have hF720 := Fr_tr hF0 hF712 (Fr_sub (by decide)) (Fr_sub (by decide))
          have hP721 := Pf_tr hP0 hQ713 (by omega)
          have hS722 := Fx_f hS0 hF712 (by decide)
          have hV723 := Fx_f hV0 hF712 (by decide)
          have bnd2_709 : (0 : Int) ≤ nd2_709 ∧ nd2_709 ≤ 6999 := e714 ▸ hW711.1 31
          refine .inr ⟨_, rfl, ?_⟩
          refine jx_ld (pc' := 110) (l' := jSto1 L7 2 (.int (i32 (nd)))) (st' := []) rfl rfl ?_
          obtain ⟨L724, eL724⟩ : ∃ q, q = jSto1 L7 2 (.int (i32 (nd))) := ⟨_, rfl⟩
          rw [← eL724]
          have gL724_0 : jGet L724 0 = some (.ref 66) := eL724 ▸ jg_ne (by decide) gL7_0 rfl
          have gL724_1 : jGet L724 1 = some (.int (i32 (lv))) := eL724 ▸ jg_ne (by decide) gL7_1 rfl
          have gL724_3 : jGet L724 3 = some (.int (i32 (G 13))) := eL724 ▸ jg_ne (by decide) gL7_3 rfl
          have gL724_2 : jGet L724 2 = some (.int (i32 (nd))) := eL724 ▸ jg_eq
          refine jx_ld (pc' := 111) (l' := L724) (st' := [.ref 66]) rfl (jl_aloadn gL724_0) ?_
          refine jx_vr (pc' := 114) (as := []) (st := []) rfl rfl rfl rfl ⟨rfl, rfl, Nat.le_of_ble_eq_true rfl⟩ rfl rfl (c_next (dd := d) (hd := by omega) (hW := hW711)  (ln := ln) (e_ln := show G707 9 = ln from ((hF712.1 9 rfl).trans (e_ln))) (le := le) (e_le := show A708 4 (ln).toNat = le from (congrFun (hF712.2 4 rfl) _).trans (e_le)) (at0 := at0) (e_at0 := show G707 10 = at0 from ((hF712.1 10 rfl).trans (e_at0)))    (p_0 := by omega)) (fun o V' hq => ?_)
          obtain ⟨G725, A726, at2_727, tk2_728, rfl, rfl, hW729, hF730, e731, e732, p733, p734, p735, -⟩ := hq
          have hF737 := Fr_tr hF720 hF730 (Fr_sub (by decide)) (Fr_sub (by decide))
          have hP738 := Pf_f hP721 hF730 (by decide)
          have hS739 := Fx_f hS722 hF730 (by decide)
          have hV740 := Fx_f hV723 hF730 (by decide)
          have sf741 : ND A726 (nd) (21) (0) (0) (0) (0) (0) (0) := ND_ag (by omega) (Ag_fr hF730 (by decide)) p718
          have ec742 : ecn A726 (G725 31) = ec2_710 := (ecn_f (hF730.2 15 rfl) (hF730.1 31 rfl)).trans e715
          have bat2_727 : (0 : Int) ≤ at2_727 ∧ at2_727 ≤ 3002 := e731 ▸ hW729.1 10
          have ztk2_728 := tz_b tk2_728
          have btk2_728 : (0 : Int) ≤ tk2_728 ∧ tk2_728 ≤ 5 := e732 ▸ hW729.1 11
          refine .inl ⟨rfl, ?_⟩
          have pz743 : at0 + tz tk2_728 ≤ at2_727 := by omega
          refine jx_ld (pc' := 115) (l' := L724) (st' := [.ref 66]) rfl (jl_aloadn gL724_0) ?_
          refine jx_vr (pc' := 118) (as := []) (st := []) rfl rfl rfl rfl ⟨rfl, rfl, Nat.le_of_ble_eq_true rfl⟩ rfl rfl (c_endLine (dd := d) (hd := by omega) (hW := hW729)  (ln := ln) (e_ln := show G725 9 = ln from ((hF730.1 9 rfl).trans ((hF712.1 9 rfl).trans (e_ln)))) (li := li) (e_li := show G725 3 = li from ((hF730.1 3 rfl).trans ((hF712.1 3 rfl).trans (e_li)))) (fk := fk) (e_fk := show G725 16 = fk from ((hF730.1 16 rfl).trans ((hF712.1 16 rfl).trans (e_fk)))) (tk0 := tk2_728) (e_tk0 := show G725 11 = tk2_728 from (e732))    (p_0 := by omega)) (fun o V' hq => ?_)
          obtain ⟨G744, A745, ln2_746, fk2_747, rfl, rfl, hW748, hF749, e750, e751, q752⟩ := hq
          have hF753 := Fr_tr hF737 hF749 (Fr_sub (by decide)) (Fr_sub (by decide))
          have hP754 := Pf_f hP738 hF749 (by decide)
          have hS755 := Fx_f hS739 hF749 (by decide)
          have hV756 := Fx_f hV740 hF749 (by decide)
          have sf757 : ND A745 (nd) (21) (0) (0) (0) (0) (0) (0) := ND_ag (by omega) (Ag_fr hF749 (by decide)) sf741
          have ec758 : ecn A745 (G744 31) = ec2_710 := (ecn_f (hF749.2 15 rfl) (hF749.1 31 rfl)).trans ec742
          have bln2_746 : (0 : Int) ≤ ln2_746 ∧ ln2_746 ≤ 3000 := e750 ▸ hW748.1 9
          have bfk2_747 : (0 : Int) ≤ fk2_747 ∧ fk2_747 ≤ 6 := e751 ▸ hW748.1 16
          refine .inl ⟨rfl, ?_⟩
          rcases q752 with ⟨a759, a760, a761, a762, a763⟩ | ⟨a764, a765⟩
          · have _q : True := trivial
            have b766 : (0 : Int) ≤ A 3 (ln2_746).toNat ∧ A 3 (ln2_746).toNat ≤ 3000 := hW.2 3 _
            have lt767 : ln2_746 < li → le < A 3 (ln2_746).toNat := fun hh => LT_nx (LT_ext (((hF749.1 3 rfl).trans ((hF730.1 3 rfl).trans (hF712.1 3 rfl)))) (((hF749.2 3 rfl).trans ((hF730.2 3 rfl).trans (hF712.2 3 rfl)))) (((hF749.2 4 rfl).trans ((hF730.2 4 rfl).trans (hF712.2 4 rfl)))) i_LT) (show G744 3 = li from ((hF749.1 3 rfl).trans ((hF730.1 3 rfl).trans ((hF712.1 3 rfl).trans (e_li))))) (show A745 4 (ln).toNat = le from (congrFun ((hF749.2 4 rfl).trans ((hF730.2 4 rfl).trans (hF712.2 4 rfl))) _).trans (e_le)) (show A745 3 (ln2_746).toNat = A 3 (ln2_746).toNat from (congrFun ((hF749.2 3 rfl).trans ((hF730.2 3 rfl).trans (hF712.2 3 rfl))) _)) (show ln2_746 = ln + 1 by omega) (by omega) hh
            refine jx_ld (pc' := 119) (l' := L724) (st' := [.int (i32 (nd))]) rfl (jl_iloadn gL724_2) ?_
            refine jx_rt (v := some (.int (i32 (nd)))) rfl rfl rfl rfl rfl rfl ?_
            exact ⟨_, _, _, ln2_746, at2_727, fk2_747, nd2_709, sy, na, vi, A 3 (ln2_746).toNat, ec2_710, rfl, rfl, hW748, hF753, hP754, hS755, hV756, by omega, (e750), ((hF749.1 10 rfl).trans (e731)), (e751), ((hF749.1 31 rfl).trans ((hF730.1 31 rfl).trans (e714))), ((hF749.1 19 rfl).trans ((hF730.1 19 rfl).trans ((hF712.1 19 rfl).trans (e_sy)))), ((hF749.1 28 rfl).trans ((hF730.1 28 rfl).trans ((hF712.1 28 rfl).trans (e_na)))), ((hF749.1 29 rfl).trans ((hF730.1 29 rfl).trans ((hF712.1 29 rfl).trans (e_vi)))), (congrFun ((hF749.2 3 rfl).trans ((hF730.2 3 rfl).trans (hF712.2 3 rfl))) _), ec758, by omega, by omega, by omega, by omega, by omega, by omega, by omega, by omega, by omega, by omega, by first | exact Or.inr ((⟨by omega, by omega, by omega, by omega, by omega, by omega, by omega, (wS_skip sf757 (by omega) (by omega)), (NX_nd sf757), by omega⟩))⟩
          · have _q : True := trivial
            refine jx_ld (pc' := 119) (l' := L724) (st' := [.int (i32 (nd))]) rfl (jl_iloadn gL724_2) ?_
            refine jx_rt (v := some (.int (i32 (nd)))) rfl rfl rfl rfl rfl rfl ?_
            exact ⟨_, _, _, ln2_746, at2_727, fk2_747, nd2_709, sy, na, vi, A 3 (ln2_746).toNat, ec2_710, rfl, rfl, hW748, hF753, hP754, hS755, hV756, by omega, (e750), ((hF749.1 10 rfl).trans (e731)), (e751), ((hF749.1 31 rfl).trans ((hF730.1 31 rfl).trans (e714))), ((hF749.1 19 rfl).trans ((hF730.1 19 rfl).trans ((hF712.1 19 rfl).trans (e_sy)))), ((hF749.1 28 rfl).trans ((hF730.1 28 rfl).trans ((hF712.1 28 rfl).trans (e_na)))), ((hF749.1 29 rfl).trans ((hF730.1 29 rfl).trans ((hF712.1 29 rfl).trans (e_vi)))), (congrFun ((hF749.2 3 rfl).trans ((hF730.2 3 rfl).trans (hF712.2 3 rfl))) _), ec758, by omega, by omega, by omega, by omega, by omega, by omega, by omega, by omega, by omega, by omega, by first | exact Or.inl (⟨by omega, by omega⟩)⟩
        · have _q := h706
          refine jx_ar (pc' := 97) (st' := [.int (i32 (20)), .ref 66]) rfl rfl rfl rfl ?_
          refine jx_go (tg := 102) rfl rfl ?_
          refine jx_ar (pc' := 103) (st' := [.int (i32 (0)), .int (i32 (20)), .ref 66]) rfl rfl rfl rfl ?_
          refine jx_ar (pc' := 104) (st' := [.int (i32 (0)), .int (i32 (0)), .int (i32 (20)), .ref 66]) rfl rfl rfl rfl ?_
          refine jx_ar (pc' := 105) (st' := [.int (i32 (0)), .int (i32 (0)), .int (i32 (0)), .int (i32 (20)), .ref 66]) rfl rfl rfl rfl ?_
          refine jx_ar (pc' := 106) (st' := [.int (i32 (0)), .int (i32 (0)), .int (i32 (0)), .int (i32 (0)), .int (i32 (20)), .ref 66]) rfl rfl rfl rfl ?_
          refine jx_vr (pc' := 109) (as := [.int (i32 (20)), .int (i32 (0)), .int (i32 (0)), .int (i32 (0)), .int (i32 (0))]) (st := []) rfl rfl rfl rfl ⟨rfl, rfl, Nat.le_of_ble_eq_true rfl⟩ rfl rfl (c_node_o (dd := d) (hd := by omega) (hW := hW) (kind := 20) (a := 0) (b := 0) (c := 0) (e := 0) (nd := nd) (e_nd := show G 31 = nd from (e_nd)) (ec := ec) (e_ec := show ecn A (G 31) = ec from e_ec)  (h_kind := ⟨(by decide), (by decide)⟩) (h_a := ⟨(by decide), (by decide)⟩) (h_b := ⟨(by decide), (by decide)⟩) (h_c := ⟨(by decide), (by decide)⟩) (h_e := ⟨(by decide), (by decide)⟩)  (p_0 := by omega) (p_1 := by omega) (p_2 := by omega)) (fun o V' hq => ?_)
          obtain ⟨G768, A769, nd2_770, ec2_771, rfl, rfl, hW772, hF773, hQ774, e775, e776, p777, p778, p779, -⟩ := hq
          have hF781 := Fr_tr hF0 hF773 (Fr_sub (by decide)) (Fr_sub (by decide))
          have hP782 := Pf_tr hP0 hQ774 (by omega)
          have hS783 := Fx_f hS0 hF773 (by decide)
          have hV784 := Fx_f hV0 hF773 (by decide)
          have bnd2_770 : (0 : Int) ≤ nd2_770 ∧ nd2_770 ≤ 6999 := e775 ▸ hW772.1 31
          refine .inr ⟨_, rfl, ?_⟩
          refine jx_ld (pc' := 110) (l' := jSto1 L7 2 (.int (i32 (nd)))) (st' := []) rfl rfl ?_
          obtain ⟨L785, eL785⟩ : ∃ q, q = jSto1 L7 2 (.int (i32 (nd))) := ⟨_, rfl⟩
          rw [← eL785]
          have gL785_0 : jGet L785 0 = some (.ref 66) := eL785 ▸ jg_ne (by decide) gL7_0 rfl
          have gL785_1 : jGet L785 1 = some (.int (i32 (lv))) := eL785 ▸ jg_ne (by decide) gL7_1 rfl
          have gL785_3 : jGet L785 3 = some (.int (i32 (G 13))) := eL785 ▸ jg_ne (by decide) gL7_3 rfl
          have gL785_2 : jGet L785 2 = some (.int (i32 (nd))) := eL785 ▸ jg_eq
          refine jx_ld (pc' := 111) (l' := L785) (st' := [.ref 66]) rfl (jl_aloadn gL785_0) ?_
          refine jx_vr (pc' := 114) (as := []) (st := []) rfl rfl rfl rfl ⟨rfl, rfl, Nat.le_of_ble_eq_true rfl⟩ rfl rfl (c_next (dd := d) (hd := by omega) (hW := hW772)  (ln := ln) (e_ln := show G768 9 = ln from ((hF773.1 9 rfl).trans (e_ln))) (le := le) (e_le := show A769 4 (ln).toNat = le from (congrFun (hF773.2 4 rfl) _).trans (e_le)) (at0 := at0) (e_at0 := show G768 10 = at0 from ((hF773.1 10 rfl).trans (e_at0)))    (p_0 := by omega)) (fun o V' hq => ?_)
          obtain ⟨G786, A787, at2_788, tk2_789, rfl, rfl, hW790, hF791, e792, e793, p794, p795, p796, -⟩ := hq
          have hF798 := Fr_tr hF781 hF791 (Fr_sub (by decide)) (Fr_sub (by decide))
          have hP799 := Pf_f hP782 hF791 (by decide)
          have hS800 := Fx_f hS783 hF791 (by decide)
          have hV801 := Fx_f hV784 hF791 (by decide)
          have sf802 : ND A787 (nd) (20) (0) (0) (0) (0) (0) (0) := ND_ag (by omega) (Ag_fr hF791 (by decide)) p779
          have ec803 : ecn A787 (G786 31) = ec2_771 := (ecn_f (hF791.2 15 rfl) (hF791.1 31 rfl)).trans e776
          have bat2_788 : (0 : Int) ≤ at2_788 ∧ at2_788 ≤ 3002 := e792 ▸ hW790.1 10
          have ztk2_789 := tz_b tk2_789
          have btk2_789 : (0 : Int) ≤ tk2_789 ∧ tk2_789 ≤ 5 := e793 ▸ hW790.1 11
          refine .inl ⟨rfl, ?_⟩
          have pz804 : at0 + tz tk2_789 ≤ at2_788 := by omega
          refine jx_ld (pc' := 115) (l' := L785) (st' := [.ref 66]) rfl (jl_aloadn gL785_0) ?_
          refine jx_vr (pc' := 118) (as := []) (st := []) rfl rfl rfl rfl ⟨rfl, rfl, Nat.le_of_ble_eq_true rfl⟩ rfl rfl (c_endLine (dd := d) (hd := by omega) (hW := hW790)  (ln := ln) (e_ln := show G786 9 = ln from ((hF791.1 9 rfl).trans ((hF773.1 9 rfl).trans (e_ln)))) (li := li) (e_li := show G786 3 = li from ((hF791.1 3 rfl).trans ((hF773.1 3 rfl).trans (e_li)))) (fk := fk) (e_fk := show G786 16 = fk from ((hF791.1 16 rfl).trans ((hF773.1 16 rfl).trans (e_fk)))) (tk0 := tk2_789) (e_tk0 := show G786 11 = tk2_789 from (e793))    (p_0 := by omega)) (fun o V' hq => ?_)
          obtain ⟨G805, A806, ln2_807, fk2_808, rfl, rfl, hW809, hF810, e811, e812, q813⟩ := hq
          have hF814 := Fr_tr hF798 hF810 (Fr_sub (by decide)) (Fr_sub (by decide))
          have hP815 := Pf_f hP799 hF810 (by decide)
          have hS816 := Fx_f hS800 hF810 (by decide)
          have hV817 := Fx_f hV801 hF810 (by decide)
          have sf818 : ND A806 (nd) (20) (0) (0) (0) (0) (0) (0) := ND_ag (by omega) (Ag_fr hF810 (by decide)) sf802
          have ec819 : ecn A806 (G805 31) = ec2_771 := (ecn_f (hF810.2 15 rfl) (hF810.1 31 rfl)).trans ec803
          have bln2_807 : (0 : Int) ≤ ln2_807 ∧ ln2_807 ≤ 3000 := e811 ▸ hW809.1 9
          have bfk2_808 : (0 : Int) ≤ fk2_808 ∧ fk2_808 ≤ 6 := e812 ▸ hW809.1 16
          refine .inl ⟨rfl, ?_⟩
          rcases q813 with ⟨a820, a821, a822, a823, a824⟩ | ⟨a825, a826⟩
          · have _q : True := trivial
            have b827 : (0 : Int) ≤ A 3 (ln2_807).toNat ∧ A 3 (ln2_807).toNat ≤ 3000 := hW.2 3 _
            have lt828 : ln2_807 < li → le < A 3 (ln2_807).toNat := fun hh => LT_nx (LT_ext (((hF810.1 3 rfl).trans ((hF791.1 3 rfl).trans (hF773.1 3 rfl)))) (((hF810.2 3 rfl).trans ((hF791.2 3 rfl).trans (hF773.2 3 rfl)))) (((hF810.2 4 rfl).trans ((hF791.2 4 rfl).trans (hF773.2 4 rfl)))) i_LT) (show G805 3 = li from ((hF810.1 3 rfl).trans ((hF791.1 3 rfl).trans ((hF773.1 3 rfl).trans (e_li))))) (show A806 4 (ln).toNat = le from (congrFun ((hF810.2 4 rfl).trans ((hF791.2 4 rfl).trans (hF773.2 4 rfl))) _).trans (e_le)) (show A806 3 (ln2_807).toNat = A 3 (ln2_807).toNat from (congrFun ((hF810.2 3 rfl).trans ((hF791.2 3 rfl).trans (hF773.2 3 rfl))) _)) (show ln2_807 = ln + 1 by omega) (by omega) hh
            refine jx_ld (pc' := 119) (l' := L785) (st' := [.int (i32 (nd))]) rfl (jl_iloadn gL785_2) ?_
            refine jx_rt (v := some (.int (i32 (nd)))) rfl rfl rfl rfl rfl rfl ?_
            exact ⟨_, _, _, ln2_807, at2_788, fk2_808, nd2_770, sy, na, vi, A 3 (ln2_807).toNat, ec2_771, rfl, rfl, hW809, hF814, hP815, hS816, hV817, by omega, (e811), ((hF810.1 10 rfl).trans (e792)), (e812), ((hF810.1 31 rfl).trans ((hF791.1 31 rfl).trans (e775))), ((hF810.1 19 rfl).trans ((hF791.1 19 rfl).trans ((hF773.1 19 rfl).trans (e_sy)))), ((hF810.1 28 rfl).trans ((hF791.1 28 rfl).trans ((hF773.1 28 rfl).trans (e_na)))), ((hF810.1 29 rfl).trans ((hF791.1 29 rfl).trans ((hF773.1 29 rfl).trans (e_vi)))), (congrFun ((hF810.2 3 rfl).trans ((hF791.2 3 rfl).trans (hF773.2 3 rfl))) _), ec819, by omega, by omega, by omega, by omega, by omega, by omega, by omega, by omega, by omega, by omega, by first | exact Or.inr ((⟨by omega, by omega, by omega, by omega, by omega, by omega, by omega, (wS_skip sf818 (by omega) (by omega)), (NX_nd sf818), by omega⟩))⟩
          · have _q : True := trivial
            refine jx_ld (pc' := 119) (l' := L785) (st' := [.int (i32 (nd))]) rfl (jl_iloadn gL785_2) ?_
            refine jx_rt (v := some (.int (i32 (nd)))) rfl rfl rfl rfl rfl rfl ?_
            exact ⟨_, _, _, ln2_807, at2_788, fk2_808, nd2_770, sy, na, vi, A 3 (ln2_807).toNat, ec2_771, rfl, rfl, hW809, hF814, hP815, hS816, hV817, by omega, (e811), ((hF810.1 10 rfl).trans (e792)), (e812), ((hF810.1 31 rfl).trans ((hF791.1 31 rfl).trans (e775))), ((hF810.1 19 rfl).trans ((hF791.1 19 rfl).trans ((hF773.1 19 rfl).trans (e_sy)))), ((hF810.1 28 rfl).trans ((hF791.1 28 rfl).trans ((hF773.1 28 rfl).trans (e_na)))), ((hF810.1 29 rfl).trans ((hF791.1 29 rfl).trans ((hF773.1 29 rfl).trans (e_vi)))), (congrFun ((hF810.2 3 rfl).trans ((hF791.2 3 rfl).trans (hF773.2 3 rfl))) _), ec819, by omega, by omega, by omega, by omega, by omega, by omega, by omega, by omega, by omega, by omega, by first | exact Or.inl (⟨by omega, by omega⟩)⟩
      · refine jx_swe (z := 8) (tg := 88) h8 rfl rfl rfl rfl ?_
        refine jx_ld (pc' := 89) (l' := L7) (st' := [.ref 66]) rfl (jl_aloadn gL7_0) ?_
        refine jx_ld (pc' := 90) (l' := L7) (st' := [.int (i32 (G 13)), .ref 66]) rfl (jl_iloadn gL7_3) ?_
        refine jx_ar (pc' := 92) (st' := [.int (i32 (7)), .int (i32 (G 13)), .ref 66]) rfl rfl rfl rfl ?_
        refine jx_icmp_ne (pc' := 95) (tg := 100) rfl rfl rfl (Int.le_trans (by decide : (-2147483648 : Int) ≤ -2147483648) b6.1) (Int.le_trans b6.2 (by decide : (2147483647 : Int) ≤ 2147483647)) (by decide) (by decide) (fun h829 => ?_) (fun h829 => ?_)
        · have _q := h829
          refine jx_ar (pc' := 102) (st' := [.int (i32 (21)), .ref 66]) rfl rfl rfl rfl ?_
          refine jx_ar (pc' := 103) (st' := [.int (i32 (0)), .int (i32 (21)), .ref 66]) rfl rfl rfl rfl ?_
          refine jx_ar (pc' := 104) (st' := [.int (i32 (0)), .int (i32 (0)), .int (i32 (21)), .ref 66]) rfl rfl rfl rfl ?_
          refine jx_ar (pc' := 105) (st' := [.int (i32 (0)), .int (i32 (0)), .int (i32 (0)), .int (i32 (21)), .ref 66]) rfl rfl rfl rfl ?_
          refine jx_ar (pc' := 106) (st' := [.int (i32 (0)), .int (i32 (0)), .int (i32 (0)), .int (i32 (0)), .int (i32 (21)), .ref 66]) rfl rfl rfl rfl ?_
          refine jx_vr (pc' := 109) (as := [.int (i32 (21)), .int (i32 (0)), .int (i32 (0)), .int (i32 (0)), .int (i32 (0))]) (st := []) rfl rfl rfl rfl ⟨rfl, rfl, Nat.le_of_ble_eq_true rfl⟩ rfl rfl (c_node_o (dd := d) (hd := by omega) (hW := hW) (kind := 21) (a := 0) (b := 0) (c := 0) (e := 0) (nd := nd) (e_nd := show G 31 = nd from (e_nd)) (ec := ec) (e_ec := show ecn A (G 31) = ec from e_ec)  (h_kind := ⟨(by decide), (by decide)⟩) (h_a := ⟨(by decide), (by decide)⟩) (h_b := ⟨(by decide), (by decide)⟩) (h_c := ⟨(by decide), (by decide)⟩) (h_e := ⟨(by decide), (by decide)⟩)  (p_0 := by omega) (p_1 := by omega) (p_2 := by omega)) (fun o V' hq => ?_)
          obtain ⟨G830, A831, nd2_832, ec2_833, rfl, rfl, hW834, hF835, hQ836, e837, e838, p839, p840, p841, -⟩ := hq
          have hF843 := Fr_tr hF0 hF835 (Fr_sub (by decide)) (Fr_sub (by decide))
          have hP844 := Pf_tr hP0 hQ836 (by omega)
          have hS845 := Fx_f hS0 hF835 (by decide)
          have hV846 := Fx_f hV0 hF835 (by decide)
          have bnd2_832 : (0 : Int) ≤ nd2_832 ∧ nd2_832 ≤ 6999 := e837 ▸ hW834.1 31
          refine .inr ⟨_, rfl, ?_⟩
          refine jx_ld (pc' := 110) (l' := jSto1 L7 2 (.int (i32 (nd)))) (st' := []) rfl rfl ?_
          obtain ⟨L847, eL847⟩ : ∃ q, q = jSto1 L7 2 (.int (i32 (nd))) := ⟨_, rfl⟩
          rw [← eL847]
          have gL847_0 : jGet L847 0 = some (.ref 66) := eL847 ▸ jg_ne (by decide) gL7_0 rfl
          have gL847_1 : jGet L847 1 = some (.int (i32 (lv))) := eL847 ▸ jg_ne (by decide) gL7_1 rfl
          have gL847_3 : jGet L847 3 = some (.int (i32 (G 13))) := eL847 ▸ jg_ne (by decide) gL7_3 rfl
          have gL847_2 : jGet L847 2 = some (.int (i32 (nd))) := eL847 ▸ jg_eq
          refine jx_ld (pc' := 111) (l' := L847) (st' := [.ref 66]) rfl (jl_aloadn gL847_0) ?_
          refine jx_vr (pc' := 114) (as := []) (st := []) rfl rfl rfl rfl ⟨rfl, rfl, Nat.le_of_ble_eq_true rfl⟩ rfl rfl (c_next (dd := d) (hd := by omega) (hW := hW834)  (ln := ln) (e_ln := show G830 9 = ln from ((hF835.1 9 rfl).trans (e_ln))) (le := le) (e_le := show A831 4 (ln).toNat = le from (congrFun (hF835.2 4 rfl) _).trans (e_le)) (at0 := at0) (e_at0 := show G830 10 = at0 from ((hF835.1 10 rfl).trans (e_at0)))    (p_0 := by omega)) (fun o V' hq => ?_)
          obtain ⟨G848, A849, at2_850, tk2_851, rfl, rfl, hW852, hF853, e854, e855, p856, p857, p858, -⟩ := hq
          have hF860 := Fr_tr hF843 hF853 (Fr_sub (by decide)) (Fr_sub (by decide))
          have hP861 := Pf_f hP844 hF853 (by decide)
          have hS862 := Fx_f hS845 hF853 (by decide)
          have hV863 := Fx_f hV846 hF853 (by decide)
          have sf864 : ND A849 (nd) (21) (0) (0) (0) (0) (0) (0) := ND_ag (by omega) (Ag_fr hF853 (by decide)) p841
          have ec865 : ecn A849 (G848 31) = ec2_833 := (ecn_f (hF853.2 15 rfl) (hF853.1 31 rfl)).trans e838
          have bat2_850 : (0 : Int) ≤ at2_850 ∧ at2_850 ≤ 3002 := e854 ▸ hW852.1 10
          have ztk2_851 := tz_b tk2_851
          have btk2_851 : (0 : Int) ≤ tk2_851 ∧ tk2_851 ≤ 5 := e855 ▸ hW852.1 11
          refine .inl ⟨rfl, ?_⟩
          have pz866 : at0 + tz tk2_851 ≤ at2_850 := by omega
          refine jx_ld (pc' := 115) (l' := L847) (st' := [.ref 66]) rfl (jl_aloadn gL847_0) ?_
          refine jx_vr (pc' := 118) (as := []) (st := []) rfl rfl rfl rfl ⟨rfl, rfl, Nat.le_of_ble_eq_true rfl⟩ rfl rfl (c_endLine (dd := d) (hd := by omega) (hW := hW852)  (ln := ln) (e_ln := show G848 9 = ln from ((hF853.1 9 rfl).trans ((hF835.1 9 rfl).trans (e_ln)))) (li := li) (e_li := show G848 3 = li from ((hF853.1 3 rfl).trans ((hF835.1 3 rfl).trans (e_li)))) (fk := fk) (e_fk := show G848 16 = fk from ((hF853.1 16 rfl).trans ((hF835.1 16 rfl).trans (e_fk)))) (tk0 := tk2_851) (e_tk0 := show G848 11 = tk2_851 from (e855))    (p_0 := by omega)) (fun o V' hq => ?_)
          obtain ⟨G867, A868, ln2_869, fk2_870, rfl, rfl, hW871, hF872, e873, e874, q875⟩ := hq
          have hF876 := Fr_tr hF860 hF872 (Fr_sub (by decide)) (Fr_sub (by decide))
          have hP877 := Pf_f hP861 hF872 (by decide)
          have hS878 := Fx_f hS862 hF872 (by decide)
          have hV879 := Fx_f hV863 hF872 (by decide)
          have sf880 : ND A868 (nd) (21) (0) (0) (0) (0) (0) (0) := ND_ag (by omega) (Ag_fr hF872 (by decide)) sf864
          have ec881 : ecn A868 (G867 31) = ec2_833 := (ecn_f (hF872.2 15 rfl) (hF872.1 31 rfl)).trans ec865
          have bln2_869 : (0 : Int) ≤ ln2_869 ∧ ln2_869 ≤ 3000 := e873 ▸ hW871.1 9
          have bfk2_870 : (0 : Int) ≤ fk2_870 ∧ fk2_870 ≤ 6 := e874 ▸ hW871.1 16
          refine .inl ⟨rfl, ?_⟩
          rcases q875 with ⟨a882, a883, a884, a885, a886⟩ | ⟨a887, a888⟩
          · have _q : True := trivial
            have b889 : (0 : Int) ≤ A 3 (ln2_869).toNat ∧ A 3 (ln2_869).toNat ≤ 3000 := hW.2 3 _
            have lt890 : ln2_869 < li → le < A 3 (ln2_869).toNat := fun hh => LT_nx (LT_ext (((hF872.1 3 rfl).trans ((hF853.1 3 rfl).trans (hF835.1 3 rfl)))) (((hF872.2 3 rfl).trans ((hF853.2 3 rfl).trans (hF835.2 3 rfl)))) (((hF872.2 4 rfl).trans ((hF853.2 4 rfl).trans (hF835.2 4 rfl)))) i_LT) (show G867 3 = li from ((hF872.1 3 rfl).trans ((hF853.1 3 rfl).trans ((hF835.1 3 rfl).trans (e_li))))) (show A868 4 (ln).toNat = le from (congrFun ((hF872.2 4 rfl).trans ((hF853.2 4 rfl).trans (hF835.2 4 rfl))) _).trans (e_le)) (show A868 3 (ln2_869).toNat = A 3 (ln2_869).toNat from (congrFun ((hF872.2 3 rfl).trans ((hF853.2 3 rfl).trans (hF835.2 3 rfl))) _)) (show ln2_869 = ln + 1 by omega) (by omega) hh
            refine jx_ld (pc' := 119) (l' := L847) (st' := [.int (i32 (nd))]) rfl (jl_iloadn gL847_2) ?_
            refine jx_rt (v := some (.int (i32 (nd)))) rfl rfl rfl rfl rfl rfl ?_
            exact ⟨_, _, _, ln2_869, at2_850, fk2_870, nd2_832, sy, na, vi, A 3 (ln2_869).toNat, ec2_833, rfl, rfl, hW871, hF876, hP877, hS878, hV879, by omega, (e873), ((hF872.1 10 rfl).trans (e854)), (e874), ((hF872.1 31 rfl).trans ((hF853.1 31 rfl).trans (e837))), ((hF872.1 19 rfl).trans ((hF853.1 19 rfl).trans ((hF835.1 19 rfl).trans (e_sy)))), ((hF872.1 28 rfl).trans ((hF853.1 28 rfl).trans ((hF835.1 28 rfl).trans (e_na)))), ((hF872.1 29 rfl).trans ((hF853.1 29 rfl).trans ((hF835.1 29 rfl).trans (e_vi)))), (congrFun ((hF872.2 3 rfl).trans ((hF853.2 3 rfl).trans (hF835.2 3 rfl))) _), ec881, by omega, by omega, by omega, by omega, by omega, by omega, by omega, by omega, by omega, by omega, by first | exact Or.inr ((⟨by omega, by omega, by omega, by omega, by omega, by omega, by omega, (wS_skip sf880 (by omega) (by omega)), (NX_nd sf880), by omega⟩))⟩
          · have _q : True := trivial
            refine jx_ld (pc' := 119) (l' := L847) (st' := [.int (i32 (nd))]) rfl (jl_iloadn gL847_2) ?_
            refine jx_rt (v := some (.int (i32 (nd)))) rfl rfl rfl rfl rfl rfl ?_
            exact ⟨_, _, _, ln2_869, at2_850, fk2_870, nd2_832, sy, na, vi, A 3 (ln2_869).toNat, ec2_833, rfl, rfl, hW871, hF876, hP877, hS878, hV879, by omega, (e873), ((hF872.1 10 rfl).trans (e854)), (e874), ((hF872.1 31 rfl).trans ((hF853.1 31 rfl).trans (e837))), ((hF872.1 19 rfl).trans ((hF853.1 19 rfl).trans ((hF835.1 19 rfl).trans (e_sy)))), ((hF872.1 28 rfl).trans ((hF853.1 28 rfl).trans ((hF835.1 28 rfl).trans (e_na)))), ((hF872.1 29 rfl).trans ((hF853.1 29 rfl).trans ((hF835.1 29 rfl).trans (e_vi)))), (congrFun ((hF872.2 3 rfl).trans ((hF853.2 3 rfl).trans (hF835.2 3 rfl))) _), ec881, by omega, by omega, by omega, by omega, by omega, by omega, by omega, by omega, by omega, by omega, by first | exact Or.inl (⟨by omega, by omega⟩)⟩
        · have _q := h829
          refine jx_ar (pc' := 97) (st' := [.int (i32 (20)), .ref 66]) rfl rfl rfl rfl ?_
          refine jx_go (tg := 102) rfl rfl ?_
          refine jx_ar (pc' := 103) (st' := [.int (i32 (0)), .int (i32 (20)), .ref 66]) rfl rfl rfl rfl ?_
          refine jx_ar (pc' := 104) (st' := [.int (i32 (0)), .int (i32 (0)), .int (i32 (20)), .ref 66]) rfl rfl rfl rfl ?_
          refine jx_ar (pc' := 105) (st' := [.int (i32 (0)), .int (i32 (0)), .int (i32 (0)), .int (i32 (20)), .ref 66]) rfl rfl rfl rfl ?_
          refine jx_ar (pc' := 106) (st' := [.int (i32 (0)), .int (i32 (0)), .int (i32 (0)), .int (i32 (0)), .int (i32 (20)), .ref 66]) rfl rfl rfl rfl ?_
          refine jx_vr (pc' := 109) (as := [.int (i32 (20)), .int (i32 (0)), .int (i32 (0)), .int (i32 (0)), .int (i32 (0))]) (st := []) rfl rfl rfl rfl ⟨rfl, rfl, Nat.le_of_ble_eq_true rfl⟩ rfl rfl (c_node_o (dd := d) (hd := by omega) (hW := hW) (kind := 20) (a := 0) (b := 0) (c := 0) (e := 0) (nd := nd) (e_nd := show G 31 = nd from (e_nd)) (ec := ec) (e_ec := show ecn A (G 31) = ec from e_ec)  (h_kind := ⟨(by decide), (by decide)⟩) (h_a := ⟨(by decide), (by decide)⟩) (h_b := ⟨(by decide), (by decide)⟩) (h_c := ⟨(by decide), (by decide)⟩) (h_e := ⟨(by decide), (by decide)⟩)  (p_0 := by omega) (p_1 := by omega) (p_2 := by omega)) (fun o V' hq => ?_)
          obtain ⟨G891, A892, nd2_893, ec2_894, rfl, rfl, hW895, hF896, hQ897, e898, e899, p900, p901, p902, -⟩ := hq
          have hF904 := Fr_tr hF0 hF896 (Fr_sub (by decide)) (Fr_sub (by decide))
          have hP905 := Pf_tr hP0 hQ897 (by omega)
          have hS906 := Fx_f hS0 hF896 (by decide)
          have hV907 := Fx_f hV0 hF896 (by decide)
          have bnd2_893 : (0 : Int) ≤ nd2_893 ∧ nd2_893 ≤ 6999 := e898 ▸ hW895.1 31
          refine .inr ⟨_, rfl, ?_⟩
          refine jx_ld (pc' := 110) (l' := jSto1 L7 2 (.int (i32 (nd)))) (st' := []) rfl rfl ?_
          obtain ⟨L908, eL908⟩ : ∃ q, q = jSto1 L7 2 (.int (i32 (nd))) := ⟨_, rfl⟩
          rw [← eL908]
          have gL908_0 : jGet L908 0 = some (.ref 66) := eL908 ▸ jg_ne (by decide) gL7_0 rfl
          have gL908_1 : jGet L908 1 = some (.int (i32 (lv))) := eL908 ▸ jg_ne (by decide) gL7_1 rfl
          have gL908_3 : jGet L908 3 = some (.int (i32 (G 13))) := eL908 ▸ jg_ne (by decide) gL7_3 rfl
          have gL908_2 : jGet L908 2 = some (.int (i32 (nd))) := eL908 ▸ jg_eq
          refine jx_ld (pc' := 111) (l' := L908) (st' := [.ref 66]) rfl (jl_aloadn gL908_0) ?_
          refine jx_vr (pc' := 114) (as := []) (st := []) rfl rfl rfl rfl ⟨rfl, rfl, Nat.le_of_ble_eq_true rfl⟩ rfl rfl (c_next (dd := d) (hd := by omega) (hW := hW895)  (ln := ln) (e_ln := show G891 9 = ln from ((hF896.1 9 rfl).trans (e_ln))) (le := le) (e_le := show A892 4 (ln).toNat = le from (congrFun (hF896.2 4 rfl) _).trans (e_le)) (at0 := at0) (e_at0 := show G891 10 = at0 from ((hF896.1 10 rfl).trans (e_at0)))    (p_0 := by omega)) (fun o V' hq => ?_)
          obtain ⟨G909, A910, at2_911, tk2_912, rfl, rfl, hW913, hF914, e915, e916, p917, p918, p919, -⟩ := hq
          have hF921 := Fr_tr hF904 hF914 (Fr_sub (by decide)) (Fr_sub (by decide))
          have hP922 := Pf_f hP905 hF914 (by decide)
          have hS923 := Fx_f hS906 hF914 (by decide)
          have hV924 := Fx_f hV907 hF914 (by decide)
          have sf925 : ND A910 (nd) (20) (0) (0) (0) (0) (0) (0) := ND_ag (by omega) (Ag_fr hF914 (by decide)) p902
          have ec926 : ecn A910 (G909 31) = ec2_894 := (ecn_f (hF914.2 15 rfl) (hF914.1 31 rfl)).trans e899
          have bat2_911 : (0 : Int) ≤ at2_911 ∧ at2_911 ≤ 3002 := e915 ▸ hW913.1 10
          have ztk2_912 := tz_b tk2_912
          have btk2_912 : (0 : Int) ≤ tk2_912 ∧ tk2_912 ≤ 5 := e916 ▸ hW913.1 11
          refine .inl ⟨rfl, ?_⟩
          have pz927 : at0 + tz tk2_912 ≤ at2_911 := by omega
          refine jx_ld (pc' := 115) (l' := L908) (st' := [.ref 66]) rfl (jl_aloadn gL908_0) ?_
          refine jx_vr (pc' := 118) (as := []) (st := []) rfl rfl rfl rfl ⟨rfl, rfl, Nat.le_of_ble_eq_true rfl⟩ rfl rfl (c_endLine (dd := d) (hd := by omega) (hW := hW913)  (ln := ln) (e_ln := show G909 9 = ln from ((hF914.1 9 rfl).trans ((hF896.1 9 rfl).trans (e_ln)))) (li := li) (e_li := show G909 3 = li from ((hF914.1 3 rfl).trans ((hF896.1 3 rfl).trans (e_li)))) (fk := fk) (e_fk := show G909 16 = fk from ((hF914.1 16 rfl).trans ((hF896.1 16 rfl).trans (e_fk)))) (tk0 := tk2_912) (e_tk0 := show G909 11 = tk2_912 from (e916))    (p_0 := by omega)) (fun o V' hq => ?_)
          obtain ⟨G928, A929, ln2_930, fk2_931, rfl, rfl, hW932, hF933, e934, e935, q936⟩ := hq
          have hF937 := Fr_tr hF921 hF933 (Fr_sub (by decide)) (Fr_sub (by decide))
          have hP938 := Pf_f hP922 hF933 (by decide)
          have hS939 := Fx_f hS923 hF933 (by decide)
          have hV940 := Fx_f hV924 hF933 (by decide)
          have sf941 : ND A929 (nd) (20) (0) (0) (0) (0) (0) (0) := ND_ag (by omega) (Ag_fr hF933 (by decide)) sf925
          have ec942 : ecn A929 (G928 31) = ec2_894 := (ecn_f (hF933.2 15 rfl) (hF933.1 31 rfl)).trans ec926
          have bln2_930 : (0 : Int) ≤ ln2_930 ∧ ln2_930 ≤ 3000 := e934 ▸ hW932.1 9
          have bfk2_931 : (0 : Int) ≤ fk2_931 ∧ fk2_931 ≤ 6 := e935 ▸ hW932.1 16
          refine .inl ⟨rfl, ?_⟩
          rcases q936 with ⟨a943, a944, a945, a946, a947⟩ | ⟨a948, a949⟩
          · have _q : True := trivial
            have b950 : (0 : Int) ≤ A 3 (ln2_930).toNat ∧ A 3 (ln2_930).toNat ≤ 3000 := hW.2 3 _
            have lt951 : ln2_930 < li → le < A 3 (ln2_930).toNat := fun hh => LT_nx (LT_ext (((hF933.1 3 rfl).trans ((hF914.1 3 rfl).trans (hF896.1 3 rfl)))) (((hF933.2 3 rfl).trans ((hF914.2 3 rfl).trans (hF896.2 3 rfl)))) (((hF933.2 4 rfl).trans ((hF914.2 4 rfl).trans (hF896.2 4 rfl)))) i_LT) (show G928 3 = li from ((hF933.1 3 rfl).trans ((hF914.1 3 rfl).trans ((hF896.1 3 rfl).trans (e_li))))) (show A929 4 (ln).toNat = le from (congrFun ((hF933.2 4 rfl).trans ((hF914.2 4 rfl).trans (hF896.2 4 rfl))) _).trans (e_le)) (show A929 3 (ln2_930).toNat = A 3 (ln2_930).toNat from (congrFun ((hF933.2 3 rfl).trans ((hF914.2 3 rfl).trans (hF896.2 3 rfl))) _)) (show ln2_930 = ln + 1 by omega) (by omega) hh
            refine jx_ld (pc' := 119) (l' := L908) (st' := [.int (i32 (nd))]) rfl (jl_iloadn gL908_2) ?_
            refine jx_rt (v := some (.int (i32 (nd)))) rfl rfl rfl rfl rfl rfl ?_
            exact ⟨_, _, _, ln2_930, at2_911, fk2_931, nd2_893, sy, na, vi, A 3 (ln2_930).toNat, ec2_894, rfl, rfl, hW932, hF937, hP938, hS939, hV940, by omega, (e934), ((hF933.1 10 rfl).trans (e915)), (e935), ((hF933.1 31 rfl).trans ((hF914.1 31 rfl).trans (e898))), ((hF933.1 19 rfl).trans ((hF914.1 19 rfl).trans ((hF896.1 19 rfl).trans (e_sy)))), ((hF933.1 28 rfl).trans ((hF914.1 28 rfl).trans ((hF896.1 28 rfl).trans (e_na)))), ((hF933.1 29 rfl).trans ((hF914.1 29 rfl).trans ((hF896.1 29 rfl).trans (e_vi)))), (congrFun ((hF933.2 3 rfl).trans ((hF914.2 3 rfl).trans (hF896.2 3 rfl))) _), ec942, by omega, by omega, by omega, by omega, by omega, by omega, by omega, by omega, by omega, by omega, by first | exact Or.inr ((⟨by omega, by omega, by omega, by omega, by omega, by omega, by omega, (wS_skip sf941 (by omega) (by omega)), (NX_nd sf941), by omega⟩))⟩
          · have _q : True := trivial
            refine jx_ld (pc' := 119) (l' := L908) (st' := [.int (i32 (nd))]) rfl (jl_iloadn gL908_2) ?_
            refine jx_rt (v := some (.int (i32 (nd)))) rfl rfl rfl rfl rfl rfl ?_
            exact ⟨_, _, _, ln2_930, at2_911, fk2_931, nd2_893, sy, na, vi, A 3 (ln2_930).toNat, ec2_894, rfl, rfl, hW932, hF937, hP938, hS939, hV940, by omega, (e934), ((hF933.1 10 rfl).trans (e915)), (e935), ((hF933.1 31 rfl).trans ((hF914.1 31 rfl).trans (e898))), ((hF933.1 19 rfl).trans ((hF914.1 19 rfl).trans ((hF896.1 19 rfl).trans (e_sy)))), ((hF933.1 28 rfl).trans ((hF914.1 28 rfl).trans ((hF896.1 28 rfl).trans (e_na)))), ((hF933.1 29 rfl).trans ((hF914.1 29 rfl).trans ((hF896.1 29 rfl).trans (e_vi)))), (congrFun ((hF933.2 3 rfl).trans ((hF914.2 3 rfl).trans (hF896.2 3 rfl))) _), ec942, by omega, by omega, by omega, by omega, by omega, by omega, by omega, by omega, by omega, by omega, by first | exact Or.inl (⟨by omega, by omega⟩)⟩
      · refine jx_swt (tg := 259) (by omega) (by omega) rfl h8 rfl ?_
        refine jx_ld (pc' := 260) (l' := L7) (st' := [.ref 66]) rfl (jl_aloadn gL7_0) ?_
        refine jx_ar (pc' := 261) (st' := [.int (i32 (1)), .ref 66]) rfl rfl rfl rfl ?_
        refine jx_ld (pc' := 262) (l' := L7) (st' := [.ref 66, .int (i32 (1)), .ref 66]) rfl (jl_aloadn gL7_0) ?_
        have b952 : (-3000 : Int) ≤ G 12 ∧ G 12 ≤ 3002 := hW.1 12
        refine jr_get (pc' := 265) (i := 12) (v := .int (i32 (G 12))) rfl rfl (by decide) rfl rfl ?_
        refine jx_vr (pc' := 268) (as := [.int (i32 (1)), .int (i32 (G 12))]) (st := []) rfl rfl rfl rfl ⟨rfl, rfl, Nat.le_of_ble_eq_true rfl⟩ rfl rfl (c_fail (dd := d) (hd := by omega) (hW := hW) (kind := 1) (place := G 12) (fk := fk) (e_fk := show G 16 = fk from (e_fk))  (h_kind := ⟨(by decide), (by decide)⟩) (h_place := ⟨(Int.le_trans (by decide : (-2147483648 : Int) ≤ -3000) b952.1), (Int.le_trans b952.2 (by decide : (3002 : Int) ≤ 2147483647))⟩)  (p_0 := by omega) (p_1 := by omega)) (fun o V' hq => ?_)
        obtain ⟨G953, A954, fk2_955, rfl, rfl, hW956, hF957, e958, p959, -⟩ := hq
        have hF961 := Fr_tr hF0 hF957 (Fr_sub (by decide)) (Fr_sub (by decide))
        have hP962 := Pf_f hP0 hF957 (by decide)
        have hS963 := Fx_f hS0 hF957 (by decide)
        have hV964 := Fx_f hV0 hF957 (by decide)
        have ec965 : ecn A954 (G953 31) = ec := (ecn_f (hF957.2 15 rfl) (hF957.1 31 rfl)).trans e_ec
        have bfk2_955 : (0 : Int) ≤ fk2_955 ∧ fk2_955 ≤ 6 := e958 ▸ hW956.1 16
        refine .inl ⟨rfl, ?_⟩
        refine jx_ar (pc' := 269) (st' := [.int (i32 (0))]) rfl rfl rfl rfl ?_
        refine jx_rt (v := some (.int (i32 (0)))) rfl rfl rfl rfl rfl rfl ?_
        exact ⟨_, _, _, ln, at0, fk2_955, nd, sy, na, vi, A 3 (ln).toNat, ec, rfl, rfl, hW956, hF961, hP962, hS963, hV964, by omega, ((hF957.1 9 rfl).trans (e_ln)), ((hF957.1 10 rfl).trans (e_at0)), (e958), ((hF957.1 31 rfl).trans (e_nd)), ((hF957.1 19 rfl).trans (e_sy)), ((hF957.1 28 rfl).trans (e_na)), ((hF957.1 29 rfl).trans (e_vi)), (congrFun (hF957.2 3 rfl) _), ec965, by omega, by omega, by omega, by omega, by omega, by omega, by omega, by omega, by omega, by omega, by first | exact Or.inl (⟨by omega, by omega⟩)⟩
    · have _q := h5
      refine jx_ld (pc' := 24) (l' := L1) (st' := [.ref 66]) rfl (jl_aloadn gL1_0) ?_
      refine jx_ar (pc' := 25) (st' := [.int (i32 (1)), .ref 66]) rfl rfl rfl rfl ?_
      refine jx_ld (pc' := 26) (l' := L1) (st' := [.ref 66, .int (i32 (1)), .ref 66]) rfl (jl_aloadn gL1_0) ?_
      have b966 : (-3000 : Int) ≤ G 12 ∧ G 12 ≤ 3002 := hW.1 12
      refine jr_get (pc' := 29) (i := 12) (v := .int (i32 (G 12))) rfl rfl (by decide) rfl rfl ?_
      refine jx_vr (pc' := 32) (as := [.int (i32 (1)), .int (i32 (G 12))]) (st := []) rfl rfl rfl rfl ⟨rfl, rfl, Nat.le_of_ble_eq_true rfl⟩ rfl rfl (c_fail (dd := d) (hd := by omega) (hW := hW) (kind := 1) (place := G 12) (fk := fk) (e_fk := show G 16 = fk from (e_fk))  (h_kind := ⟨(by decide), (by decide)⟩) (h_place := ⟨(Int.le_trans (by decide : (-2147483648 : Int) ≤ -3000) b966.1), (Int.le_trans b966.2 (by decide : (3002 : Int) ≤ 2147483647))⟩)  (p_0 := by omega) (p_1 := by omega)) (fun o V' hq => ?_)
      obtain ⟨G967, A968, fk2_969, rfl, rfl, hW970, hF971, e972, p973, -⟩ := hq
      have hF975 := Fr_tr hF0 hF971 (Fr_sub (by decide)) (Fr_sub (by decide))
      have hP976 := Pf_f hP0 hF971 (by decide)
      have hS977 := Fx_f hS0 hF971 (by decide)
      have hV978 := Fx_f hV0 hF971 (by decide)
      have ec979 : ecn A968 (G967 31) = ec := (ecn_f (hF971.2 15 rfl) (hF971.1 31 rfl)).trans e_ec
      have bfk2_969 : (0 : Int) ≤ fk2_969 ∧ fk2_969 ≤ 6 := e972 ▸ hW970.1 16
      refine .inl ⟨rfl, ?_⟩
      refine jx_ar (pc' := 33) (st' := [.int (i32 (0))]) rfl rfl rfl rfl ?_
      refine jx_rt (v := some (.int (i32 (0)))) rfl rfl rfl rfl rfl rfl ?_
      exact ⟨_, _, _, ln, at0, fk2_969, nd, sy, na, vi, A 3 (ln).toNat, ec, rfl, rfl, hW970, hF975, hP976, hS977, hV978, by omega, ((hF971.1 9 rfl).trans (e_ln)), ((hF971.1 10 rfl).trans (e_at0)), (e972), ((hF971.1 31 rfl).trans (e_nd)), ((hF971.1 19 rfl).trans (e_sy)), ((hF971.1 28 rfl).trans (e_na)), ((hF971.1 29 rfl).trans (e_vi)), (congrFun (hF971.2 3 rfl) _), ec979, by omega, by omega, by omega, by omega, by omega, by omega, by omega, by omega, by omega, by omega, by first | exact Or.inl (⟨by omega, by omega⟩)⟩
  · have _q := h3
    refine jx_ld (pc' := 11) (l' := L1) (st' := [.ref 66]) rfl (jl_aloadn gL1_0) ?_
    refine jx_vr (pc' := 14) (as := []) (st := []) rfl rfl rfl rfl ⟨rfl, rfl, Nat.le_of_ble_eq_true rfl⟩ rfl rfl (c_readNamed_w (dd := d) (hd := by omega) (hW := hW)  (ln := ln) (e_ln := show G 9 = ln from (e_ln)) (le := le) (e_le := show A 4 (ln).toNat = le from (e_le)) (at0 := at0) (e_at0 := show G 10 = at0 from (e_at0)) (fk := fk) (e_fk := show G 16 = fk from (e_fk)) (op0 := op0) (e_op0 := show G 15 = op0 from (e_op0)) (nd := nd) (e_nd := show G 31 = nd from (e_nd)) (tk0 := tk0) (e_tk0 := show G 11 = tk0 from (e_tk0)) (li := li) (e_li := show G 3 = li from (e_li)) (ec := ec) (e_ec := show ecn A (G 31) = ec from e_ec) (i_SV := (SV_fx i_SV e_vi (show G 29 = vi from (e_vi)) (by omega) hV0)) (i_PQ := (PQ_fx i_PQ hS0 (by omega) (hF0.2 29 rfl) (hF0.2 30 rfl)))   (p_0 := by omega) (p_1 := by omega) (p_2 := by omega) (p_3 := by omega) (p_4 := by omega) (p_5 := by omega)) (fun o V' hq => ?_)
    obtain ⟨G980, A981, r982, at2_983, fk2_984, nd2_985, ln2_986, ec2_987, rfl, rfl, hW988, hF989, hQ990, b991, e992, e993, e994, e995, e996, p997, p998, p999, p1000, p1001, q1002⟩ := hq
    have hF1003 := Fr_tr hF0 hF989 (Fr_sub (by decide)) (Fr_sub (by decide))
    have hP1004 := Pf_tr hP0 hQ990 (by omega)
    have hS1005 := Fx_f hS0 hF989 (by decide)
    have hV1006 := Fx_f hV0 hF989 (by decide)
    have bat2_983 : (0 : Int) ≤ at2_983 ∧ at2_983 ≤ 3002 := e992 ▸ hW988.1 10
    have bfk2_984 : (0 : Int) ≤ fk2_984 ∧ fk2_984 ≤ 6 := e993 ▸ hW988.1 16
    have bnd2_985 : (0 : Int) ≤ nd2_985 ∧ nd2_985 ≤ 6999 := e994 ▸ hW988.1 31
    have bln2_986 : (0 : Int) ≤ ln2_986 ∧ ln2_986 ≤ 3000 := e995 ▸ hW988.1 9
    refine .inr ⟨_, rfl, ?_⟩
    rcases q1002 with ⟨a1007, a1008, a1009⟩ | ⟨a1010, a1011, a1012, a1013, a1014, a1015, a1016, a1017⟩
    · have _q : True := trivial
      refine jx_rt (v := some (.int (i32 (r982)))) rfl rfl rfl rfl rfl rfl ?_
      exact ⟨_, _, _, ln2_986, at2_983, fk2_984, nd2_985, sy, na, vi, A 3 (ln2_986).toNat, ec2_987, rfl, rfl, hW988, hF1003, hP1004, hS1005, hV1006, by omega, (e995), (e992), (e993), (e994), ((hF989.1 19 rfl).trans (e_sy)), ((hF989.1 28 rfl).trans (e_na)), ((hF989.1 29 rfl).trans (e_vi)), (congrFun (hF989.2 3 rfl) _), e996, by omega, by omega, by omega, by omega, by omega, by omega, by omega, by omega, by omega, by omega, by first | exact Or.inl (⟨by omega, by omega⟩)⟩
    · have _q : True := trivial
      have b1018 : (0 : Int) ≤ A 3 (ln2_986).toNat ∧ A 3 (ln2_986).toNat ≤ 3000 := hW.2 3 _
      have lt1019 : ln2_986 < li → le < A 3 (ln2_986).toNat := fun hh => LT_nx (LT_ext ((hF989.1 3 rfl)) ((hF989.2 3 rfl)) ((hF989.2 4 rfl)) i_LT) (show G980 3 = li from ((hF989.1 3 rfl).trans (e_li))) (show A981 4 (ln).toNat = le from (congrFun (hF989.2 4 rfl) _).trans (e_le)) (show A981 3 (ln2_986).toNat = A 3 (ln2_986).toNat from (congrFun (hF989.2 3 rfl) _)) (show ln2_986 = ln + 1 by omega) (by omega) hh
      refine jx_rt (v := some (.int (i32 (r982)))) rfl rfl rfl rfl rfl rfl ?_
      exact ⟨_, _, _, ln2_986, at2_983, fk2_984, nd2_985, sy, na, vi, A 3 (ln2_986).toNat, ec2_987, rfl, rfl, hW988, hF1003, hP1004, hS1005, hV1006, by omega, (e995), (e992), (e993), (e994), ((hF989.1 19 rfl).trans (e_sy)), ((hF989.1 28 rfl).trans (e_na)), ((hF989.1 29 rfl).trans (e_vi)), (congrFun (hF989.2 3 rfl) _), e996, by omega, by omega, by omega, by omega, by omega, by omega, by omega, by omega, by omega, by omega, by first | exact Or.inr ((⟨by omega, by omega, by omega, by omega, by omega, by omega, by omega, (wS_leaf (wL_eq a1015 (by omega) (by omega)) (by omega) (by omega)), a1016, by omega⟩))⟩
