set_option maxRecDepth 20000 in
set_option maxHeartbeats 4000000 in
theorem c_readAlt_w_at_24 {X : jX} {k : Nat} (hP : RPw X k) {d : Nat} {Vs : Nat → Prop} {sb pb : Int} (hvb : VB Vs sb) {c0 c1 : jC} {G : Nat → Int} {A : Nat → Nat → Int} {T : jH} {lv : Int} {ln li at0 fk nd sy na vi le op0 tk0 ec : Int} (hd : 8 * k + 82 ≤ d + 1) (hW : Wk G A) (e_ln : G 9 = ln) (e_li : G 3 = li) (e_at0 : G 10 = at0) (e_fk : G 16 = fk) (e_nd : G 31 = nd) (e_sy : G 19 = sy) (e_na : G 28 = na) (e_vi : G 29 = vi) (e_le : A 4 (ln).toNat = le) (e_op0 : G 15 = op0) (e_tk0 : G 11 = tk0) (e_ec : ecn A (G 31) = ec) (i_LT : LT G A) (i_SV : SV Vs sb G A) (i_PQ : PQ Vs sb pb G A) (h_lv : (-2147483648 : Int) ≤ lv ∧ lv ≤ 2147483647) (p_0 : 0 ≤ lv ∧ lv ≤ 15) (p_1 : 18 - lv ≤ ((k + 1 : Nat) : Int)) (p_2 : fk = 0) (p_3 : ln < li) (p_4 : at0 ≤ le) (p_5 : op0 = 0) (p_6 : nd ≤ 2 * at0 - tz tk0 + 30) (p_7 : sy ≤ na + 2) (p_8 : vi ≤ sy) (p_9 : sb = sy) (p_10 : 1 ≤ tk0) : ∀ (m : Nat) (L : jL) (Gx : Nat → Int) (Ax : Nat → Nat → Int) (n last many ln1 at1 fk1 nd1 sy1 na1 vi1 lf1 ec1 : Int), (li - ln1).toNat = m → jGet L 0 = some (.ref 66) → jGet L 1 = some (.int (i32 (lv))) → jGet L 2 = some (.int (i32 n)) → jGet L 3 = some (.int (i32 last)) → jGet L 4 = some (.int (i32 many)) → Wk Gx Ax → Fr [9, 10, 11, 12, 13, 14, 15, 16, 17, 18, 19, 28, 29, 31] [6, 7, 8, 9, 10, 11, 12, 14, 15, 16, 17, 18, 19, 20, 21, 22, 23, 24, 28] G A Gx Ax → Pf nd A Ax → Fx sr (sy) A Ax → Fx [14] (vi) A Ax → Gx 9 = ln1 → Gx 10 = at1 → Gx 16 = fk1 → Gx 31 = nd1 → Gx 19 = sy1 → Gx 28 = na1 → Gx 29 = vi1 → Ax 3 (ln1).toNat = lf1 → ecn Ax (Gx 31) = ec1 → ((-2147483648 : Int) ≤ n ∧ n ≤ 2147483647) → ((-2147483648 : Int) ≤ last ∧ last ≤ 2147483647) → ((-2147483648 : Int) ≤ many ∧ many ≤ 2147483647) → (fk1 = 0) → (at0 ≤ at1) → (nd ≤ n ∧ n ≤ 6998 ∧ n < nd1) → (sy ≤ sy1) → (sy1 ≤ na1 + 2) → (vi1 = vi) → (ln < ln1) → (ln1 ≤ li) → (nd1 - nd ≤ 2 * at1 - (2 * at0 - tz tk0)) → (at1 < lf1 ∨ li ≤ ln1) → (n = nd) → (0 ≤ last ∧ last ≤ 6998) → (last = 0 ∨ n < last) → (last < nd1) → (0 ≤ many ∧ many ≤ 8) → (ND Ax (n) (32) (0) (0) (0) (0) (Ax 21 (n).toNat) (0)) → (CL 2 Ax (sy1) pb (k) (Vs) (n) (last) (many) (n + 1) (nd1) (sy) (sy1)) → (nd + 5 * ec ≤ n ∧ n ≤ 6998 ∧ n < nd1) → (nd1 - nd + 5 * (ec1 - ec) ≤ 2 * at1 - (2 * at0 - tz tk0)) → wj X d jm302 (24, L, [], rV c0 c1 Gx Ax T) (fun o V' => ∃ (G' : Nat → Int) (A' : Nat → Nat → Int) (r : Int) (ln2 : Int) (at2 : Int) (fk2 : Int) (nd2 : Int) (sy2 : Int) (na2 : Int) (vi2 : Int) (lf2 : Int) (ec2 : Int), V' = rV c0 c1 G' A' T ∧ o = .inl (some (.int (i32 r))) ∧ Wk G' A' ∧ Fr [9, 10, 11, 12, 13, 14, 15, 16, 17, 18, 19, 28, 29, 31] [6, 7, 8, 9, 10, 11, 12, 14, 15, 16, 17, 18, 19, 20, 21, 22, 23, 24, 28] G A G' A' ∧ Pf nd A A' ∧ Fx sr (sy) A A' ∧ Fx [14] (vi) A A' ∧ ((-2147483648 : Int) ≤ r ∧ r ≤ 2147483647) ∧ G' 9 = ln2 ∧ G' 10 = at2 ∧ G' 16 = fk2 ∧ G' 31 = nd2 ∧ G' 19 = sy2 ∧ G' 28 = na2 ∧ G' 29 = vi2 ∧ A' 3 (ln2).toNat = lf2 ∧ ecn A' (G' 31) = ec2 ∧ (at0 ≤ at2) ∧ (nd ≤ nd2) ∧ (sy ≤ sy2) ∧ (sy2 ≤ na2 + 2) ∧ (vi ≤ vi2) ∧ (vi2 ≤ vi + 1) ∧ (0 ≤ r) ∧ (r ≤ 6999) ∧ (ln ≤ ln2) ∧ (ln2 ≤ li) ∧ (((1 ≤ fk2) ∧ (nd2 - nd ≤ 2 * at2 - (2 * at0 - tz tk0) + 14)) ∨ ((fk2 = 0) ∧ (vi2 = vi) ∧ (ln < ln2) ∧ (nd2 - nd ≤ 2 * at2 - (2 * at0 - tz tk0)) ∧ (at2 < lf2 ∨ li ≤ ln2) ∧ (nd ≤ r) ∧ (r < nd2) ∧ (wSt A' (sy2) pb (wP A' (sy2) pb (k)) (Vs) (r) (nd) (nd2) (sy) (sy2)) ∧ (NX A' (r)) ∧ (nd2 - nd + 5 * (ec2 - ec) ≤ 2 * at2 - (2 * at0 - tz tk0)) ∧ (nd + 5 * ec ≤ r)))) := by
  have hF0 : Fr [9, 10, 11, 12, 13, 14, 15, 16, 17, 18, 19, 28, 29, 31] [6, 7, 8, 9, 10, 11, 12, 14, 15, 16, 17, 18, 19, 20, 21, 22, 23, 24, 28] G A G A := Fr_rf
  have hP0 : Pf nd A A := Pf_rf
  have hS0 : Fx sr (sy) A A := Fx_rf
  have hV0 : Fx [14] (vi) A A := Fx_rf
  have b_ln : (0 : Int) ≤ ln ∧ ln ≤ 3000 := e_ln ▸ hW.1 9
  have b_li : (0 : Int) ≤ li ∧ li ≤ 3000 := e_li ▸ hW.1 3
  have b_at0 : (0 : Int) ≤ at0 ∧ at0 ≤ 3002 := e_at0 ▸ hW.1 10
  have b_fk : (0 : Int) ≤ fk ∧ fk ≤ 6 := e_fk ▸ hW.1 16
  have b_nd : (0 : Int) ≤ nd ∧ nd ≤ 6999 := e_nd ▸ hW.1 31
  have b_sy : (0 : Int) ≤ sy ∧ sy ≤ 202 := e_sy ▸ hW.1 19
  have b_na : (0 : Int) ≤ na ∧ na ≤ 200 := e_na ▸ hW.1 28
  have b_vi : (0 : Int) ≤ vi ∧ vi ≤ 202 := e_vi ▸ hW.1 29
  have b_le : (0 : Int) ≤ le ∧ le ≤ 3000 := e_le ▸ hW.2 4 _
  have b_op0 : (-2147483648 : Int) ≤ op0 ∧ op0 ≤ 2147483647 := e_op0 ▸ hW.1 15
  have z_tk0 := tz_f tk0
  have b_tk0 : (0 : Int) ≤ tk0 ∧ tk0 ≤ 5 := e_tk0 ▸ hW.1 11
  intro m
  induction m using Nat.strongRecOn with
  | ind m ih24 =>
    intro L Gx Ax n last many ln1 at1 fk1 nd1 sy1 na1 vi1 lf1 ec1 hm gL_0 gL_1 gL_2 gL_3 gL_4 hWx hFx hPx hSx hVx ex_ln1 ex_at1 ex_fk1 ex_nd1 ex_sy1 ex_na1 ex_vi1 ex_lf1 ex_ec1 rx_n rx_last rx_many iv_0 iv_1 iv_2 iv_3 iv_4 iv_5 iv_6 iv_7 iv_8 iv_9 iv_10 iv_11 iv_12 iv_13 iv_14 iv_15 iv_16 iv_17 iv_18
    have b_ln1 : (0 : Int) ≤ ln1 ∧ ln1 ≤ 3000 := ex_ln1 ▸ hWx.1 9
    have b_at1 : (0 : Int) ≤ at1 ∧ at1 ≤ 3002 := ex_at1 ▸ hWx.1 10
    have b_fk1 : (0 : Int) ≤ fk1 ∧ fk1 ≤ 6 := ex_fk1 ▸ hWx.1 16
    have b_nd1 : (0 : Int) ≤ nd1 ∧ nd1 ≤ 6999 := ex_nd1 ▸ hWx.1 31
    have b_sy1 : (0 : Int) ≤ sy1 ∧ sy1 ≤ 202 := ex_sy1 ▸ hWx.1 19
    have b_na1 : (0 : Int) ≤ na1 ∧ na1 ≤ 200 := ex_na1 ▸ hWx.1 28
    have b_vi1 : (0 : Int) ≤ vi1 ∧ vi1 ≤ 202 := ex_vi1 ▸ hWx.1 29
    refine jx_ld (pc' := 25) (l' := L) (st' := [.ref 66]) rfl (jl_aloadn gL_0) ?_
    refine jx_ld (pc' := 26) (l' := L) (st' := [.int (i32 (lv)), .ref 66]) rfl (jl_iloadn gL_1) ?_
    have b1 : (-1 : Int) ≤ A 5 (ln1).toNat ∧ A 5 (ln1).toNat ≤ 15 := hW.2 5 _
    refine jx_vr (pc' := 29) (as := [.int (i32 (lv))]) (st := []) rfl rfl rfl rfl ⟨rfl, rfl, Nat.le_of_ble_eq_true rfl⟩ rfl rfl (c_isBelow (dd := d) (hd := by omega) (hW := hWx) (lv := lv) (ln := ln1) (e_ln := show Gx 9 = ln1 from (ex_ln1)) (li := li) (e_li := show Gx 3 = li from ((hFx.1 3 rfl).trans (e_li))) (fk := fk1) (e_fk := show Gx 16 = fk1 from (ex_fk1)) (ll := A 5 (ln1).toNat) (e_ll := show Ax 5 (ln1).toNat = A 5 (ln1).toNat from (congrFun (hFx.2 5 rfl) _))  (h_lv := ⟨(Int.le_trans (by decide : (-2147483648 : Int) ≤ -2147483648) h_lv.1), (Int.le_trans h_lv.2 (by decide : (2147483647 : Int) ≤ 2147483647))⟩)  (p_0 := by omega)) (fun o V' hq => ?_)
    obtain ⟨G2, A3, r4, fk2_5, rfl, rfl, hW6, hF7, b8, e9, q10⟩ := hq
    have hF11 := Fr_tr hFx hF7 (Fr_sub (by decide)) (Fr_sub (by decide))
    have hP12 := Pf_f hPx hF7 (by decide)
    have hS13 := Fx_f hSx hF7 (by decide)
    have hV14 := Fx_f hVx hF7 (by decide)
    have sf15 : ND A3 (n) (32) (0) (0) (0) (0) (Ax 21 (n).toNat) (0) := ND_ag (by omega) (Ag_fr hF7 (by decide)) iv_15
    have sf16 : CL 2 A3 (sy1) pb (k) (Vs) (n) (last) (many) (n + 1) (nd1) (sy) (sy1) := CL_ag (by omega) (by omega) (Sg_fr hF7 (by decide)) (Qg_fr hF7 (by decide)) (Ag_fr hF7 (by decide)) (congrFun (hF7.2 21 rfl) _) iv_16
    have ec17 : ecn A3 (G2 31) = ec1 := (ecn_f (hF7.2 15 rfl) (hF7.1 31 rfl)).trans ex_ec1
    have bfk2_5 : (0 : Int) ≤ fk2_5 ∧ fk2_5 ≤ 6 := e9 ▸ hW6.1 16
    refine .inr ⟨_, rfl, ?_⟩
    rcases q10 with ⟨rfl, a18, a19, a20, a21⟩ | ⟨rfl, a22⟩ | ⟨rfl, a23, a24, a25⟩
    · have _q : True := trivial
      have b26 : (0 : Int) ≤ A 4 (ln1).toNat ∧ A 4 (ln1).toNat ≤ 3000 := hW.2 4 _
      have lt27 : lf1 < A 4 (ln1).toNat := LT_at (LT_ext (((hF7.1 3 rfl).trans (hFx.1 3 rfl))) (((hF7.2 3 rfl).trans (hFx.2 3 rfl))) (((hF7.2 4 rfl).trans (hFx.2 4 rfl))) i_LT) (show G2 3 = li from ((hF7.1 3 rfl).trans ((hFx.1 3 rfl).trans (e_li)))) (show A3 3 (ln1).toNat = lf1 from (congrFun (hF7.2 3 rfl) _).trans (ex_lf1)) (show A3 4 (ln1).toNat = A 4 (ln1).toNat from (congrFun ((hF7.2 4 rfl).trans (hFx.2 4 rfl)) _)) (by omega) (by omega)
      refine jx_if_eq (pc' := 32) (tg := 130) rfl rfl rfl (by decide) (by decide) (fun h28 => ?_) (fun h28 => ?_)
      · have _q := h28
        exact absurd h28 (by omega)
      · have _q := h28
        refine jx_ld (pc' := 34) (l' := L) (st' := [.int (i32 (many))]) rfl (jl_iload gL_4) ?_
        refine jx_ar (pc' := 36) (st' := [.int (i32 (8)), .int (i32 (many))]) rfl rfl rfl rfl ?_
        refine jx_icmp_ne (pc' := 39) (tg := 65) rfl rfl rfl (Int.le_trans (by decide : (-2147483648 : Int) ≤ -2147483648) rx_many.1) (Int.le_trans rx_many.2 (by decide : (2147483647 : Int) ≤ 2147483647)) (by decide) (by decide) (fun h29 => ?_) (fun h29 => ?_)
        · have _q := h29
          refine jx_ld (pc' := 66) (l' := L) (st' := [.ref 66]) rfl (jl_aloadn gL_0) ?_
          refine jx_vr (pc' := 69) (as := []) (st := []) rfl rfl rfl rfl ⟨rfl, rfl, Nat.le_of_ble_eq_true rfl⟩ rfl rfl (c_openLine (dd := d) (hd := by omega) (hW := hW6)  (ln := ln1) (e_ln := show G2 9 = ln1 from ((hF7.1 9 rfl).trans (ex_ln1))) (le := A 4 (ln1).toNat) (e_le := show A3 4 (ln1).toNat = A 4 (ln1).toNat from (congrFun ((hF7.2 4 rfl).trans (hFx.2 4 rfl)) _)) (lf := lf1) (e_lf := show A3 3 (ln1).toNat = lf1 from (congrFun (hF7.2 3 rfl) _).trans (ex_lf1))    (p_0 := by omega)) (fun o V' hq => ?_)
          obtain ⟨G30, A31, at2_32, tk2_33, op2_34, rfl, rfl, hW35, hF36, e37, e38, e39, p40, p41, p42, p43, -⟩ := hq
          have hF45 := Fr_tr hF11 hF36 (Fr_sub (by decide)) (Fr_sub (by decide))
          have hP46 := Pf_f hP12 hF36 (by decide)
          have hS47 := Fx_f hS13 hF36 (by decide)
          have hV48 := Fx_f hV14 hF36 (by decide)
          have sf49 : ND A31 (n) (32) (0) (0) (0) (0) (Ax 21 (n).toNat) (0) := ND_ag (by omega) (Ag_fr hF36 (by decide)) sf15
          have sf50 : CL 2 A31 (sy1) pb (k) (Vs) (n) (last) (many) (n + 1) (nd1) (sy) (sy1) := CL_ag (by omega) (by omega) (Sg_fr hF36 (by decide)) (Qg_fr hF36 (by decide)) (Ag_fr hF36 (by decide)) (congrFun (hF36.2 21 rfl) _) sf16
          have ec51 : ecn A31 (G30 31) = ec1 := (ecn_f (hF36.2 15 rfl) (hF36.1 31 rfl)).trans ec17
          have bat2_32 : (0 : Int) ≤ at2_32 ∧ at2_32 ≤ 3002 := e37 ▸ hW35.1 10
          have ztk2_33 := tz_b tk2_33
          have btk2_33 : (0 : Int) ≤ tk2_33 ∧ tk2_33 ≤ 5 := e38 ▸ hW35.1 11
          have bop2_34 : (-2147483648 : Int) ≤ op2_34 ∧ op2_34 ≤ 2147483647 := e39 ▸ hW35.1 15
          refine .inl ⟨rfl, ?_⟩
          have pz52 : lf1 + tz tk2_33 ≤ at2_32 := by omega
          refine jx_ld (pc' := 70) (l' := L) (st' := [.ref 66]) rfl (jl_aloadn gL_0) ?_
          refine jx_vr (pc' := 73) (as := []) (st := []) rfl rfl rfl rfl ⟨rfl, rfl, Nat.le_of_ble_eq_true rfl⟩ rfl rfl (c_readGuard_w (dd := d) (hd := by omega) (hW := hW35)  (ln := ln1) (e_ln := show G30 9 = ln1 from ((hF36.1 9 rfl).trans ((hF7.1 9 rfl).trans (ex_ln1)))) (le := A 4 (ln1).toNat) (e_le := show A31 4 (ln1).toNat = A 4 (ln1).toNat from (congrFun ((hF36.2 4 rfl).trans ((hF7.2 4 rfl).trans (hFx.2 4 rfl))) _)) (at0 := at2_32) (e_at0 := show G30 10 = at2_32 from (e37)) (fk := fk2_5) (e_fk := show G30 16 = fk2_5 from ((hF36.1 16 rfl).trans (e9))) (op0 := op2_34) (e_op0 := show G30 15 = op2_34 from (e39)) (nd := nd1) (e_nd := show G30 31 = nd1 from ((hF36.1 31 rfl).trans ((hF7.1 31 rfl).trans (ex_nd1)))) (tk0 := tk2_33) (e_tk0 := show G30 11 = tk2_33 from (e38)) (li := li) (e_li := show G30 3 = li from ((hF36.1 3 rfl).trans ((hF7.1 3 rfl).trans ((hFx.1 3 rfl).trans (e_li))))) (ec := ec1) (e_ec := show ecn A31 (G30 31) = ec1 from ec51) (i_SV := (SV_fx i_SV e_vi (show G30 29 = vi1 from ((hF36.1 29 rfl).trans ((hF7.1 29 rfl).trans (ex_vi1)))) (by omega) hV48))   (p_0 := by omega) (p_1 := by omega) (p_2 := by omega) (p_3 := by omega) (p_4 := by omega)) (fun o V' hq => ?_)
          obtain ⟨G53, A54, r55, at2_56, fk2_57, nd2_58, ln2_59, ec2_60, rfl, rfl, hW61, hF62, hQ63, b64, e65, e66, e67, e68, e69, p70, p71, p72, p73, p74, q75⟩ := hq
          have hF76 := Fr_tr hF45 hF62 (Fr_sub (by decide)) (Fr_sub (by decide))
          have hP77 := Pf_tr hP46 hQ63 (by omega)
          have hS78 := Fx_f hS47 hF62 (by decide)
          have hV79 := Fx_f hV48 hF62 (by decide)
          have sf80 : ND A54 (n) (32) (0) (0) (0) (0) (Ax 21 (n).toNat) (0) := ND_ag (by omega) (Ag_pf hQ63 (by omega)) sf49
          have sf81 : CL 2 A54 (sy1) pb (k) (Vs) (n) (last) (many) (n + 1) (nd1) (sy) (sy1) := CL_ag (by omega) (by omega) (Sg_fr hF62 (by decide)) (Qg_fr hF62 (by decide)) (Ag_pf hQ63 (by omega)) (hQ63 21 _ rfl (by omega)) sf50
          have bat2_56 : (0 : Int) ≤ at2_56 ∧ at2_56 ≤ 3002 := e65 ▸ hW61.1 10
          have bfk2_57 : (0 : Int) ≤ fk2_57 ∧ fk2_57 ≤ 6 := e66 ▸ hW61.1 16
          have bnd2_58 : (0 : Int) ≤ nd2_58 ∧ nd2_58 ≤ 6999 := e67 ▸ hW61.1 31
          have bln2_59 : (0 : Int) ≤ ln2_59 ∧ ln2_59 ≤ 3000 := e68 ▸ hW61.1 9
          refine .inr ⟨_, rfl, ?_⟩
          rcases q75 with ⟨a82, a83, a84⟩ | ⟨a85, a86, a87, a88, a89, a90, a91, a92, a93⟩
          · have _q : True := trivial
            refine jx_ld (pc' := 75) (l' := jSto1 L 5 (.int (i32 (r55)))) (st' := []) rfl rfl ?_
            obtain ⟨L94, eL94⟩ : ∃ q, q = jSto1 L 5 (.int (i32 (r55))) := ⟨_, rfl⟩
            rw [← eL94]
            have gL94_0 : jGet L94 0 = some (.ref 66) := eL94 ▸ jg_ne (by decide) gL_0 rfl
            have gL94_1 : jGet L94 1 = some (.int (i32 (lv))) := eL94 ▸ jg_ne (by decide) gL_1 rfl
            have gL94_2 : jGet L94 2 = some (.int (i32 (n))) := eL94 ▸ jg_ne (by decide) gL_2 rfl
            have gL94_3 : jGet L94 3 = some (.int (i32 (last))) := eL94 ▸ jg_ne (by decide) gL_3 rfl
            have gL94_4 : jGet L94 4 = some (.int (i32 (many))) := eL94 ▸ jg_ne (by decide) gL_4 rfl
            have gL94_5 : jGet L94 5 = some (.int (i32 (r55))) := eL94 ▸ jg_eq
            refine jx_ld (pc' := 76) (l' := L94) (st' := [.ref 66]) rfl (jl_aloadn gL94_0) ?_
            refine jx_vr (pc' := 79) (as := []) (st := []) rfl rfl rfl rfl ⟨rfl, rfl, Nat.le_of_ble_eq_true rfl⟩ rfl rfl (c_bad (dd := d) (hd := by omega) (hW := hW61)  (fk := fk2_57) (e_fk := show G53 16 = fk2_57 from (e66))    ) (fun o V' hq => ?_)
            obtain ⟨r95, rfl, rfl, b96, q97⟩ := hq
            refine .inr ⟨_, rfl, ?_⟩
            rcases q97 with ⟨rfl, a98⟩ | ⟨rfl, a99⟩
            · have _q : True := trivial
              refine jx_if_eq (pc' := 82) (tg := 86) rfl rfl rfl (by decide) (by decide) (fun h100 => ?_) (fun h100 => ?_)
              · have _q := h100
                exact absurd h100 (by omega)
              · have _q := h100
                refine jx_ar (pc' := 83) (st' := [.int (i32 (0))]) rfl rfl rfl rfl ?_
                refine jx_go (tg := 93) rfl rfl ?_
                refine jx_ld (pc' := 95) (l' := jSto1 L94 6 (.int (i32 (0)))) (st' := []) rfl rfl ?_
                obtain ⟨L101, eL101⟩ : ∃ q, q = jSto1 L94 6 (.int (i32 (0))) := ⟨_, rfl⟩
                rw [← eL101]
                have gL101_0 : jGet L101 0 = some (.ref 66) := eL101 ▸ jg_ne (by decide) gL94_0 rfl
                have gL101_1 : jGet L101 1 = some (.int (i32 (lv))) := eL101 ▸ jg_ne (by decide) gL94_1 rfl
                have gL101_2 : jGet L101 2 = some (.int (i32 (n))) := eL101 ▸ jg_ne (by decide) gL94_2 rfl
                have gL101_3 : jGet L101 3 = some (.int (i32 (last))) := eL101 ▸ jg_ne (by decide) gL94_3 rfl
                have gL101_4 : jGet L101 4 = some (.int (i32 (many))) := eL101 ▸ jg_ne (by decide) gL94_4 rfl
                have gL101_5 : jGet L101 5 = some (.int (i32 (r55))) := eL101 ▸ jg_ne (by decide) gL94_5 rfl
                have gL101_6 : jGet L101 6 = some (.int (i32 (0))) := eL101 ▸ jg_eq
                refine jx_ld (pc' := 96) (l' := L101) (st' := [.ref 66]) rfl (jl_aloadn gL101_0) ?_
                refine jx_vr (pc' := 99) (as := []) (st := []) rfl rfl rfl rfl ⟨rfl, rfl, Nat.le_of_ble_eq_true rfl⟩ rfl rfl (c_bad (dd := d) (hd := by omega) (hW := hW61)  (fk := fk2_57) (e_fk := show G53 16 = fk2_57 from (e66))    ) (fun o V' hq => ?_)
                obtain ⟨r102, rfl, rfl, b103, q104⟩ := hq
                refine .inr ⟨_, rfl, ?_⟩
                rcases q104 with ⟨rfl, a105⟩ | ⟨rfl, a106⟩
                · have _q : True := trivial
                  refine jx_if_eq (pc' := 102) (tg := 104) rfl rfl rfl (by decide) (by decide) (fun h107 => ?_) (fun h107 => ?_)
                  · have _q := h107
                    exact absurd h107 (by omega)
                  · have _q := h107
                    refine jx_ar (pc' := 103) (st' := [.int (i32 (0))]) rfl rfl rfl rfl ?_
                    refine jx_rt (v := some (.int (i32 (0)))) rfl rfl rfl rfl rfl rfl ?_
                    exact ⟨_, _, _, ln2_59, at2_56, fk2_57, nd2_58, sy1, na1, vi1, A 3 (ln2_59).toNat, ec2_60, rfl, rfl, hW61, hF76, hP77, hS78, hV79, by omega, (e68), (e65), (e66), (e67), ((hF62.1 19 rfl).trans ((hF36.1 19 rfl).trans ((hF7.1 19 rfl).trans (ex_sy1)))), ((hF62.1 28 rfl).trans ((hF36.1 28 rfl).trans ((hF7.1 28 rfl).trans (ex_na1)))), ((hF62.1 29 rfl).trans ((hF36.1 29 rfl).trans ((hF7.1 29 rfl).trans (ex_vi1)))), (congrFun ((hF62.2 3 rfl).trans ((hF36.2 3 rfl).trans ((hF7.2 3 rfl).trans (hFx.2 3 rfl)))) _), e69, by omega, by omega, by omega, by omega, by omega, by omega, by omega, by omega, by omega, by omega, by first | exact Or.inl (⟨by omega, by omega⟩)⟩
                · have _q : True := trivial
                  exfalso
                  omega
            · have _q : True := trivial
              exfalso
              omega
          · have _q : True := trivial
            have b108 : (0 : Int) ≤ A 3 (ln2_59).toNat ∧ A 3 (ln2_59).toNat ≤ 3000 := hW.2 3 _
            have lt109 : ln2_59 < li → A 4 (ln1).toNat < A 3 (ln2_59).toNat := fun hh => LT_nx (LT_ext (((hF62.1 3 rfl).trans ((hF36.1 3 rfl).trans ((hF7.1 3 rfl).trans (hFx.1 3 rfl))))) (((hF62.2 3 rfl).trans ((hF36.2 3 rfl).trans ((hF7.2 3 rfl).trans (hFx.2 3 rfl))))) (((hF62.2 4 rfl).trans ((hF36.2 4 rfl).trans ((hF7.2 4 rfl).trans (hFx.2 4 rfl))))) i_LT) (show G53 3 = li from ((hF62.1 3 rfl).trans ((hF36.1 3 rfl).trans ((hF7.1 3 rfl).trans ((hFx.1 3 rfl).trans (e_li)))))) (show A54 4 (ln1).toNat = A 4 (ln1).toNat from (congrFun ((hF62.2 4 rfl).trans ((hF36.2 4 rfl).trans ((hF7.2 4 rfl).trans (hFx.2 4 rfl)))) _)) (show A54 3 (ln2_59).toNat = A 3 (ln2_59).toNat from (congrFun ((hF62.2 3 rfl).trans ((hF36.2 3 rfl).trans ((hF7.2 3 rfl).trans (hFx.2 3 rfl)))) _)) (show ln2_59 = ln1 + 1 by omega) (by omega) hh
            refine jx_ld (pc' := 75) (l' := jSto1 L 5 (.int (i32 (r55)))) (st' := []) rfl rfl ?_
            obtain ⟨L110, eL110⟩ : ∃ q, q = jSto1 L 5 (.int (i32 (r55))) := ⟨_, rfl⟩
            rw [← eL110]
            have gL110_0 : jGet L110 0 = some (.ref 66) := eL110 ▸ jg_ne (by decide) gL_0 rfl
            have gL110_1 : jGet L110 1 = some (.int (i32 (lv))) := eL110 ▸ jg_ne (by decide) gL_1 rfl
            have gL110_2 : jGet L110 2 = some (.int (i32 (n))) := eL110 ▸ jg_ne (by decide) gL_2 rfl
            have gL110_3 : jGet L110 3 = some (.int (i32 (last))) := eL110 ▸ jg_ne (by decide) gL_3 rfl
            have gL110_4 : jGet L110 4 = some (.int (i32 (many))) := eL110 ▸ jg_ne (by decide) gL_4 rfl
            have gL110_5 : jGet L110 5 = some (.int (i32 (r55))) := eL110 ▸ jg_eq
            refine jx_ld (pc' := 76) (l' := L110) (st' := [.ref 66]) rfl (jl_aloadn gL110_0) ?_
            refine jx_vr (pc' := 79) (as := []) (st := []) rfl rfl rfl rfl ⟨rfl, rfl, Nat.le_of_ble_eq_true rfl⟩ rfl rfl (c_bad (dd := d) (hd := by omega) (hW := hW61)  (fk := fk2_57) (e_fk := show G53 16 = fk2_57 from (e66))    ) (fun o V' hq => ?_)
            obtain ⟨r111, rfl, rfl, b112, q113⟩ := hq
            refine .inr ⟨_, rfl, ?_⟩
            rcases q113 with ⟨rfl, a114⟩ | ⟨rfl, a115⟩
            · have _q : True := trivial
              exfalso
              omega
            · have _q : True := trivial
              refine jx_if_eq (pc' := 82) (tg := 86) rfl rfl rfl (by decide) (by decide) (fun h116 => ?_) (fun h116 => ?_)
              · have _q := h116
                refine jx_ld (pc' := 87) (l' := L110) (st' := [.ref 66]) rfl (jl_aloadn gL110_0) ?_
                refine jx_ld (pc' := 88) (l' := L110) (st' := [.int (i32 (lv)), .ref 66]) rfl (jl_iloadn gL110_1) ?_
                refine jx_ar (pc' := 89) (st' := [.int (i32 (2)), .int (i32 (lv)), .ref 66]) rfl rfl rfl rfl ?_
                refine jx_add (pc' := 90) rfl rfl ?_
                refine jx_vr (pc' := 93) (as := [.int (i32 ((lv + 2)))]) (st := []) rfl rfl rfl rfl ⟨rfl, rfl, Nat.le_of_ble_eq_true rfl⟩ rfl rfl (hP (dd := d) (hd := by omega) (hW := hW61) (lv := (lv + 2)) (at0 := at2_56) (ln := ln2_59) (e_ln := show G53 9 = ln2_59 from (e68)) (li := li) (e_li := show G53 3 = li from ((hF62.1 3 rfl).trans ((hF36.1 3 rfl).trans ((hF7.1 3 rfl).trans ((hFx.1 3 rfl).trans (e_li)))))) (fk := fk2_57) (e_fk := show G53 16 = fk2_57 from (e66)) (nd := nd2_58) (e_nd := show G53 31 = nd2_58 from (e67)) (sy := sy1) (e_sy := show G53 19 = sy1 from ((hF62.1 19 rfl).trans ((hF36.1 19 rfl).trans ((hF7.1 19 rfl).trans (ex_sy1))))) (na := na1) (e_na := show G53 28 = na1 from ((hF62.1 28 rfl).trans ((hF36.1 28 rfl).trans ((hF7.1 28 rfl).trans (ex_na1))))) (vi := vi1) (e_vi := show G53 29 = vi1 from ((hF62.1 29 rfl).trans ((hF36.1 29 rfl).trans ((hF7.1 29 rfl).trans (ex_vi1))))) (lf := A 3 (ln2_59).toNat) (e_lf := show A54 3 (ln2_59).toNat = A 3 (ln2_59).toNat from (congrFun ((hF62.2 3 rfl).trans ((hF36.2 3 rfl).trans ((hF7.2 3 rfl).trans (hFx.2 3 rfl)))) _)) (ac := at2_56) (e_ac := show G53 10 = at2_56 from (e65)) (ec := ec2_60) (e_ec := show ecn A54 (G53 31) = ec2_60 from e69) (i_LT := (LT_ext (((hF62.1 3 rfl).trans ((hF36.1 3 rfl).trans ((hF7.1 3 rfl).trans (hFx.1 3 rfl))))) (((hF62.2 3 rfl).trans ((hF36.2 3 rfl).trans ((hF7.2 3 rfl).trans (hFx.2 3 rfl))))) (((hF62.2 4 rfl).trans ((hF36.2 4 rfl).trans ((hF7.2 4 rfl).trans (hFx.2 4 rfl))))) i_LT)) (i_SV := (SV_fx i_SV e_vi (show G53 29 = vi1 from ((hF62.1 29 rfl).trans ((hF36.1 29 rfl).trans ((hF7.1 29 rfl).trans (ex_vi1))))) (by omega) hV79)) (i_PQ := (PQ_fx i_PQ hS78 (by omega) (hF76.2 29 rfl) (hF76.2 30 rfl))) (hvb := hvb) (h_lv := ⟨(by omega), (by omega)⟩)  (p_0 := by omega) (p_1 := by omega) (p_2 := by omega) (p_3 := by omega) (p_4 := by omega) (p_5 := by omega) (p_6 := by omega) (p_7 := by omega) (p_8 := by omega) (p_9 := by omega) (p_10 := by omega)) (fun o V' hq => ?_)
                obtain ⟨G117, A118, r119, ln2_120, at2_121, fk2_122, nd2_123, sy2_124, na2_125, vi2_126, lf2_127, ec2_128, rfl, rfl, hW129, hF130, hQ131, hQ132, hQ133, b134, e135, e136, e137, e138, e139, e140, e141, e142, e143, p144, p145, p146, p147, p148, p149, p150, p151, p152, q153⟩ := hq
                have hF154 := Fr_tr hF76 hF130 (Fr_sub (by decide)) (Fr_sub (by decide))
                have hP155 := Pf_tr hP77 hQ131 (by omega)
                have hS156 := Fx_tr hS78 hQ132 (by omega)
                have hV157 := Fx_tr hV79 hQ133 (by omega)
                have sf158 : ND A118 (n) (32) (0) (0) (0) (0) (Ax 21 (n).toNat) (0) := ND_ag (by omega) (Ag_pf hQ131 (by omega)) sf80
                have sf159 : CL 2 A118 (sy1) pb (k) (Vs) (n) (last) (many) (n + 1) (nd1) (sy) (sy1) := CL_ag (by omega) (by omega) (Fx_su hQ132 (by omega)) (Qg_fr hF130 (by decide)) (Ag_pf hQ131 (by omega)) (hQ131 21 _ rfl (by omega)) sf81
                have sf160 : wU A118 Vs sb (r55) (nd1) (nd2_58) := wU_ag (by omega) (Fx_su hQ132 (by omega)) (Ax_ag (Ag_pf hQ131 (by omega))) a90
                have sf161 : NX A118 (r55) := NX_ag (by omega) (Ag_pf hQ131 (by omega)) a91
                have bln2_120 : (0 : Int) ≤ ln2_120 ∧ ln2_120 ≤ 3000 := e135 ▸ hW129.1 9
                have bat2_121 : (0 : Int) ≤ at2_121 ∧ at2_121 ≤ 3002 := e136 ▸ hW129.1 10
                have bfk2_122 : (0 : Int) ≤ fk2_122 ∧ fk2_122 ≤ 6 := e137 ▸ hW129.1 16
                have bnd2_123 : (0 : Int) ≤ nd2_123 ∧ nd2_123 ≤ 6999 := e138 ▸ hW129.1 31
                have bsy2_124 : (0 : Int) ≤ sy2_124 ∧ sy2_124 ≤ 202 := e139 ▸ hW129.1 19
                have bna2_125 : (0 : Int) ≤ na2_125 ∧ na2_125 ≤ 200 := e140 ▸ hW129.1 28
                have bvi2_126 : (0 : Int) ≤ vi2_126 ∧ vi2_126 ≤ 202 := e141 ▸ hW129.1 29
                have blf2_127 : (0 : Int) ≤ lf2_127 ∧ lf2_127 ≤ 3000 := e142 ▸ hW129.2 3 _
                refine .inr ⟨_, rfl, ?_⟩
                rcases q153 with ⟨a162, a163⟩ | ⟨a164, a165, a166, a167, a168, a169, a170, a171, a172, a173⟩
                · have _q : True := trivial
                  refine jx_ld (pc' := 95) (l' := jSto1 L110 6 (.int (i32 (r119)))) (st' := []) rfl rfl ?_
                  obtain ⟨L174, eL174⟩ : ∃ q, q = jSto1 L110 6 (.int (i32 (r119))) := ⟨_, rfl⟩
                  rw [← eL174]
                  have gL174_0 : jGet L174 0 = some (.ref 66) := eL174 ▸ jg_ne (by decide) gL110_0 rfl
                  have gL174_1 : jGet L174 1 = some (.int (i32 (lv))) := eL174 ▸ jg_ne (by decide) gL110_1 rfl
                  have gL174_2 : jGet L174 2 = some (.int (i32 (n))) := eL174 ▸ jg_ne (by decide) gL110_2 rfl
                  have gL174_3 : jGet L174 3 = some (.int (i32 (last))) := eL174 ▸ jg_ne (by decide) gL110_3 rfl
                  have gL174_4 : jGet L174 4 = some (.int (i32 (many))) := eL174 ▸ jg_ne (by decide) gL110_4 rfl
                  have gL174_5 : jGet L174 5 = some (.int (i32 (r55))) := eL174 ▸ jg_ne (by decide) gL110_5 rfl
                  have gL174_6 : jGet L174 6 = some (.int (i32 (r119))) := eL174 ▸ jg_eq
                  refine jx_ld (pc' := 96) (l' := L174) (st' := [.ref 66]) rfl (jl_aloadn gL174_0) ?_
                  refine jx_vr (pc' := 99) (as := []) (st := []) rfl rfl rfl rfl ⟨rfl, rfl, Nat.le_of_ble_eq_true rfl⟩ rfl rfl (c_bad (dd := d) (hd := by omega) (hW := hW129)  (fk := fk2_122) (e_fk := show G117 16 = fk2_122 from (e137))    ) (fun o V' hq => ?_)
                  obtain ⟨r175, rfl, rfl, b176, q177⟩ := hq
                  refine .inr ⟨_, rfl, ?_⟩
                  rcases q177 with ⟨rfl, a178⟩ | ⟨rfl, a179⟩
                  · have _q : True := trivial
                    refine jx_if_eq (pc' := 102) (tg := 104) rfl rfl rfl (by decide) (by decide) (fun h180 => ?_) (fun h180 => ?_)
                    · have _q := h180
                      exact absurd h180 (by omega)
                    · have _q := h180
                      refine jx_ar (pc' := 103) (st' := [.int (i32 (0))]) rfl rfl rfl rfl ?_
                      refine jx_rt (v := some (.int (i32 (0)))) rfl rfl rfl rfl rfl rfl ?_
                      exact ⟨_, _, _, ln2_120, at2_121, fk2_122, nd2_123, sy2_124, na2_125, vi2_126, lf2_127, ec2_128, rfl, rfl, hW129, hF154, hP155, hS156, hV157, by omega, (e135), (e136), (e137), (e138), (e139), (e140), (e141), (e142), e143, by omega, by omega, by omega, by omega, by omega, by omega, by omega, by omega, by omega, by omega, by first | exact Or.inl (⟨by omega, by omega⟩)⟩
                  · have _q : True := trivial
                    exfalso
                    omega
                · have _q : True := trivial
                  refine jx_ld (pc' := 95) (l' := jSto1 L110 6 (.int (i32 (r119)))) (st' := []) rfl rfl ?_
                  obtain ⟨L181, eL181⟩ : ∃ q, q = jSto1 L110 6 (.int (i32 (r119))) := ⟨_, rfl⟩
                  rw [← eL181]
                  have gL181_0 : jGet L181 0 = some (.ref 66) := eL181 ▸ jg_ne (by decide) gL110_0 rfl
                  have gL181_1 : jGet L181 1 = some (.int (i32 (lv))) := eL181 ▸ jg_ne (by decide) gL110_1 rfl
                  have gL181_2 : jGet L181 2 = some (.int (i32 (n))) := eL181 ▸ jg_ne (by decide) gL110_2 rfl
                  have gL181_3 : jGet L181 3 = some (.int (i32 (last))) := eL181 ▸ jg_ne (by decide) gL110_3 rfl
                  have gL181_4 : jGet L181 4 = some (.int (i32 (many))) := eL181 ▸ jg_ne (by decide) gL110_4 rfl
                  have gL181_5 : jGet L181 5 = some (.int (i32 (r55))) := eL181 ▸ jg_ne (by decide) gL110_5 rfl
                  have gL181_6 : jGet L181 6 = some (.int (i32 (r119))) := eL181 ▸ jg_eq
                  refine jx_ld (pc' := 96) (l' := L181) (st' := [.ref 66]) rfl (jl_aloadn gL181_0) ?_
                  refine jx_vr (pc' := 99) (as := []) (st := []) rfl rfl rfl rfl ⟨rfl, rfl, Nat.le_of_ble_eq_true rfl⟩ rfl rfl (c_bad (dd := d) (hd := by omega) (hW := hW129)  (fk := fk2_122) (e_fk := show G117 16 = fk2_122 from (e137))    ) (fun o V' hq => ?_)
                  obtain ⟨r182, rfl, rfl, b183, q184⟩ := hq
                  refine .inr ⟨_, rfl, ?_⟩
                  rcases q184 with ⟨rfl, a185⟩ | ⟨rfl, a186⟩
                  · have _q : True := trivial
                    exfalso
                    omega
                  · have _q : True := trivial
                    refine jx_if_eq (pc' := 102) (tg := 104) rfl rfl rfl (by decide) (by decide) (fun h187 => ?_) (fun h187 => ?_)
                    · have _q := h187
                      refine jx_ld (pc' := 105) (l' := L181) (st' := [.ref 66]) rfl (jl_aloadn gL181_0) ?_
                      refine jr_get (pc' := 108) (i := 38) (v := .ref 88) rfl rfl (by decide) rfl rfl ?_
                      refine jx_ld (pc' := 110) (l' := L181) (st' := [.int (i32 (r55)), .ref 88]) rfl (jl_iload gL181_5) ?_
                      refine jx_ld (pc' := 112) (l' := L181) (st' := [.int (i32 (r119)), .int (i32 (r55)), .ref 88]) rfl (jl_iload gL181_6) ?_
                      refine jr_st (pc' := 113) (i := 21) (m := 7000) (z := r55) (y := r119) rfl (by decide) rfl (by decide) (by omega) (by omega) rfl ?_
                      have hW189 : Wk G117 (uA A118 21 (r55).toNat (r119)) := Wk_a hW129 (show (-2147483648 : Int) ≤ r119 by omega) (show r119 ≤ (2147483647 : Int) by omega)
                      have hF190 := Fr_a (z := r119) (k := 21) (n := (r55).toNat) hF154 (by decide)
                      obtain ⟨A188, eA188⟩ : ∃ q, q = uA A118 21 (r55).toNat (r119) := ⟨_, rfl⟩
                      rw [← eA188]
                      rw [← eA188] at hW189 hF190
                      have q191 : A188 21 (r55).toNat = r119 := by rw [eA188]; exact uA_eq
                      have hP192 : Pf nd A A188 := eA188 ▸ Pf_a hP155 (z := r55) (by omega) (by omega)
                      have hS193 : Fx sr (sy) A A188 := eA188 ▸ Fx_n hS156 rfl
                      have hV194 : Fx [14] (vi) A A188 := eA188 ▸ Fx_n hV157 rfl
                      have sf195 : ND A188 (n) (32) (0) (0) (0) (0) (Ax 21 (n).toNat) (0) := ND_ag (by omega) (Ag_st eA188 (by omega) (by omega)) sf158
                      have sf196 : CL 2 A188 (sy1) pb (k) (Vs) (n) (last) (many) (n + 1) (nd1) (sy) (sy1) := CL_ag (by omega) (by omega) (Sg_ne eA188 rfl) (Qg_ne eA188 rfl) (Ag_st eA188 (by omega) (by omega)) ((by rw [eA188]; exact uA_ni (by omega))) sf159
                      have sf197 : wU A188 Vs sb (r55) (nd1) (nd2_58) := wU_f eA188 (by omega) sf160
                      have sf198 : NX A188 (r55) := NX_r eA188 (by decide) sf161
                      have sf199 : wP A188 (sy2_124) pb (k) (Vs) (r119) (nd2_58) (nd2_123) (sy1) (sy2_124) := wP_ag (Sg_ne eA188 rfl) (Qg_ne eA188 rfl) (by omega) (by omega) (Ax_ag (Ag_st eA188 (by omega) (by omega))) a170
                      have sf200 : NX A188 (r119) := NX_r eA188 (by decide) a171
                      have ec201 : ecn A188 (G117 31) = ec2_128 := (ecn_e ((congrFun eA188 15).trans (uA_ne (by decide)))).trans e143
                      refine jx_ld (pc' := 114) (l' := L181) (st' := [.ref 66]) rfl (jl_aloadn gL181_0) ?_
                      refine jx_ld (pc' := 115) (l' := L181) (st' := [.int (i32 (n)), .ref 66]) rfl (jl_iloadn gL181_2) ?_
                      refine jx_ld (pc' := 116) (l' := L181) (st' := [.int (i32 (last)), .int (i32 (n)), .ref 66]) rfl (jl_iloadn gL181_3) ?_
                      refine jx_ld (pc' := 118) (l' := L181) (st' := [.int (i32 (r55)), .int (i32 (last)), .int (i32 (n)), .ref 66]) rfl (jl_iload gL181_5) ?_
                      refine jx_vr (pc' := 121) (as := [.int (i32 (n)), .int (i32 (last)), .int (i32 (r55))]) (st := []) rfl rfl rfl rfl ⟨rfl, rfl, Nat.le_of_ble_eq_true rfl⟩ rfl rfl (c_addTo (dd := d) (zz := nd) (hd := by omega) (hW := hW189) (n := n) (last := last) (one := r55)   (h_n := ⟨(Int.le_trans (by decide : (-2147483648 : Int) ≤ -2147483648) rx_n.1), (Int.le_trans rx_n.2 (by decide : (2147483647 : Int) ≤ 2147483647))⟩) (h_last := ⟨(Int.le_trans (by decide : (-2147483648 : Int) ≤ -2147483648) rx_last.1), (Int.le_trans rx_last.2 (by decide : (2147483647 : Int) ≤ 2147483647))⟩) (h_one := ⟨(Int.le_trans (by decide : (-2147483648 : Int) ≤ -2147483648) b64.1), (Int.le_trans b64.2 (by decide : (2147483647 : Int) ≤ 2147483647))⟩)  (p_0 := by omega) (p_1 := by omega) (p_2 := by omega) (p_3 := by omega)) (fun o V' hq => ?_)
                      obtain ⟨G202, A203, rfl, rfl, hW204, hF205, hQ206, q207⟩ := hq
                      have hF208 := Fr_tr hF190 hF205 (Fr_sub (by decide)) (Fr_sub (by decide))
                      have hP209 := Pf_tr hP192 hQ206 (by omega)
                      have hS210 := Fx_f hS193 hF205 (by decide)
                      have hV211 := Fx_f hV194 hF205 (by decide)
                      have ec212 : ecn A203 (G202 31) = ec2_128 := (ecn_f (hF205.2 15 rfl) (hF205.1 31 rfl)).trans ec201
                      refine .inl ⟨rfl, ?_⟩
                      rcases q207 with ⟨a213, a214⟩ | ⟨a215, a216⟩
                      · have _q : True := trivial
                        have sf217 : ND A203 (n) (32) (0) (0) (0) (0) (r55) (0) := ND_f a214 sf195
                        have sf218 : CL 2 A203 (sy2_124) pb (k) (Vs) (n) (r55) (many + 1) (n + 1) (nd2_123) (sy) (sy2_124) := CL_one a214 (by omega) (by omega) (by omega) (by omega) (by omega) (by omega) (show RQ 2 A188 (sy2_124) pb (k) (Vs) (r55) (nd1) (nd2_123) (sy1) (sy2_124) from wG_mk (m := nd2_58) (wU_sb (by omega) (wU_eq sf197 (by omega) (by omega))) (show A188 21 (r55).toNat = r119 from (q191)) (by omega) (by omega) (wP_eq sf199 (by omega) rfl rfl (by omega) rfl (by omega) rfl (by omega))) sf198 (CL_sb (by omega) sf196)
                        have sf219 : wU A203 Vs sb (r55) (nd1) (nd2_58) := wU_ag (by omega) (Sg_ne a214 rfl) (Ax_ag (Ag_st a214 (by omega) (by omega))) sf197
                        have sf220 : NX A203 (r55) := NX_r a214 (by decide) sf198
                        have sf221 : wP A203 (sy2_124) pb (k) (Vs) (r119) (nd2_58) (nd2_123) (sy1) (sy2_124) := wP_ag (Sg_ne a214 rfl) (Qg_ne a214 rfl) (by omega) (by omega) (Ax_ag (Ag_st a214 (by omega) (by omega))) sf199
                        have sf222 : NX A203 (r119) := NX_r a214 (by decide) sf200
                        refine jx_ld (pc' := 123) (l' := L181) (st' := [.int (i32 (r55))]) rfl (jl_iload gL181_5) ?_
                        refine jx_ld (pc' := 124) (l' := jSto1 L181 3 (.int (i32 (r55)))) (st' := []) rfl rfl ?_
                        obtain ⟨L223, eL223⟩ : ∃ q, q = jSto1 L181 3 (.int (i32 (r55))) := ⟨_, rfl⟩
                        rw [← eL223]
                        have gL223_0 : jGet L223 0 = some (.ref 66) := eL223 ▸ jg_ne (by decide) gL181_0 rfl
                        have gL223_1 : jGet L223 1 = some (.int (i32 (lv))) := eL223 ▸ jg_ne (by decide) gL181_1 rfl
                        have gL223_2 : jGet L223 2 = some (.int (i32 (n))) := eL223 ▸ jg_ne (by decide) gL181_2 rfl
                        have gL223_4 : jGet L223 4 = some (.int (i32 (many))) := eL223 ▸ jg_ne (by decide) gL181_4 rfl
                        have gL223_5 : jGet L223 5 = some (.int (i32 (r55))) := eL223 ▸ jg_ne (by decide) gL181_5 rfl
                        have gL223_6 : jGet L223 6 = some (.int (i32 (r119))) := eL223 ▸ jg_ne (by decide) gL181_6 rfl
                        have gL223_3 : jGet L223 3 = some (.int (i32 (r55))) := eL223 ▸ jg_eq
                        refine jx_inc (pc' := 127) (l' := jSto1 L223 4 (.int (i32 ((many + (1)))))) (x := many) rfl gL223_4 (by decide) rfl rfl ?_
                        obtain ⟨L224, eL224⟩ : ∃ q, q = jSto1 L223 4 (.int (i32 ((many + (1))))) := ⟨_, rfl⟩
                        rw [← eL224]
                        have gL224_0 : jGet L224 0 = some (.ref 66) := eL224 ▸ jg_ne (by decide) gL223_0 rfl
                        have gL224_1 : jGet L224 1 = some (.int (i32 (lv))) := eL224 ▸ jg_ne (by decide) gL223_1 rfl
                        have gL224_2 : jGet L224 2 = some (.int (i32 (n))) := eL224 ▸ jg_ne (by decide) gL223_2 rfl
                        have gL224_5 : jGet L224 5 = some (.int (i32 (r55))) := eL224 ▸ jg_ne (by decide) gL223_5 rfl
                        have gL224_6 : jGet L224 6 = some (.int (i32 (r119))) := eL224 ▸ jg_ne (by decide) gL223_6 rfl
                        have gL224_3 : jGet L224 3 = some (.int (i32 (r55))) := eL224 ▸ jg_ne (by decide) gL223_3 rfl
                        have gL224_4 : jGet L224 4 = some (.int (i32 ((many + (1))))) := eL224 ▸ jg_eq
                        refine jx_go (tg := 24) rfl rfl ?_
                        exact ih24 _ (by omega) L224 G202 A203 (n) (r55) ((many + (1))) (ln2_120) (at2_121) (fk2_122) (nd2_123) (sy2_124) (na2_125) (vi2_126) (lf2_127) (ec2_128) rfl gL224_0 gL224_1 gL224_2 gL224_3 gL224_4 hW204 hF208 hP209 hS210 hV211 (((hF205.1 9 rfl).trans (e135))) (((hF205.1 10 rfl).trans (e136))) (((hF205.1 16 rfl).trans (e137))) (((hF205.1 31 rfl).trans (e138))) (((hF205.1 19 rfl).trans (e139))) (((hF205.1 28 rfl).trans (e140))) (((hF205.1 29 rfl).trans (e141))) ((congrFun ((hF205.2 3 rfl).trans ((congrFun eA188 3).trans (uA_ne (by decide)))) _).trans (e142)) (ec212) (by omega) (by omega) (by omega) (by omega) (by omega) (by omega) (by omega) (by omega) (by omega) (by omega) (by omega) (by omega) (by omega) (by omega) (by omega) (by omega) (by omega) (by omega) ((ND_sf sf217)) ((CL_eq (CL_sb (by omega) sf218) (by omega) (by omega) (by omega) (by omega) (by omega) (by omega))) (by omega) (by omega)
                      · have _q : True := trivial
                        have sf225 : ND A203 (n) (32) (0) (0) (0) (0) (Ax 21 (n).toNat) (0) := ND_ag (by omega) (Ag_st a216 (by omega) (by omega)) sf195
                        have sf226 : CL 2 A203 (sy2_124) pb (k) (Vs) (n) (r55) (many + 1) (n + 1) (nd2_123) (sy) (sy2_124) := CL_two a216 (by omega) (by omega) (by omega) (by omega) (by omega) (show RQ 2 A188 (sy2_124) pb (k) (Vs) (r55) (nd1) (nd2_123) (sy1) (sy2_124) from wG_mk (m := nd2_58) (wU_sb (by omega) (wU_eq sf197 (by omega) (by omega))) (show A188 21 (r55).toNat = r119 from (q191)) (by omega) (by omega) (wP_eq sf199 (by omega) rfl rfl (by omega) rfl (by omega) rfl (by omega))) sf198 (CL_sb (by omega) sf196)
                        have sf227 : wU A203 Vs sb (r55) (nd1) (nd2_58) := wU_ag (by omega) (Sg_ne a216 rfl) (Ax_ag (Ag_st a216 (by omega) (by omega))) sf197
                        have sf228 : NX A203 (r55) := NX_ag (by omega) (Ag_st a216 (by omega) (by omega)) sf198
                        have sf229 : wP A203 (sy2_124) pb (k) (Vs) (r119) (nd2_58) (nd2_123) (sy1) (sy2_124) := wP_ag (Sg_ne a216 rfl) (Qg_ne a216 rfl) (by omega) (by omega) (Ax_ag (Ag_st a216 (by omega) (by omega))) sf199
                        have sf230 : NX A203 (r119) := NX_ag (by omega) (Ag_st a216 (by omega) (by omega)) sf200
                        refine jx_ld (pc' := 123) (l' := L181) (st' := [.int (i32 (r55))]) rfl (jl_iload gL181_5) ?_
                        refine jx_ld (pc' := 124) (l' := jSto1 L181 3 (.int (i32 (r55)))) (st' := []) rfl rfl ?_
                        obtain ⟨L231, eL231⟩ : ∃ q, q = jSto1 L181 3 (.int (i32 (r55))) := ⟨_, rfl⟩
                        rw [← eL231]
                        have gL231_0 : jGet L231 0 = some (.ref 66) := eL231 ▸ jg_ne (by decide) gL181_0 rfl
                        have gL231_1 : jGet L231 1 = some (.int (i32 (lv))) := eL231 ▸ jg_ne (by decide) gL181_1 rfl
                        have gL231_2 : jGet L231 2 = some (.int (i32 (n))) := eL231 ▸ jg_ne (by decide) gL181_2 rfl
                        have gL231_4 : jGet L231 4 = some (.int (i32 (many))) := eL231 ▸ jg_ne (by decide) gL181_4 rfl
                        have gL231_5 : jGet L231 5 = some (.int (i32 (r55))) := eL231 ▸ jg_ne (by decide) gL181_5 rfl
                        have gL231_6 : jGet L231 6 = some (.int (i32 (r119))) := eL231 ▸ jg_ne (by decide) gL181_6 rfl
                        have gL231_3 : jGet L231 3 = some (.int (i32 (r55))) := eL231 ▸ jg_eq
                        refine jx_inc (pc' := 127) (l' := jSto1 L231 4 (.int (i32 ((many + (1)))))) (x := many) rfl gL231_4 (by decide) rfl rfl ?_
                        obtain ⟨L232, eL232⟩ : ∃ q, q = jSto1 L231 4 (.int (i32 ((many + (1))))) := ⟨_, rfl⟩
                        rw [← eL232]
                        have gL232_0 : jGet L232 0 = some (.ref 66) := eL232 ▸ jg_ne (by decide) gL231_0 rfl
                        have gL232_1 : jGet L232 1 = some (.int (i32 (lv))) := eL232 ▸ jg_ne (by decide) gL231_1 rfl
                        have gL232_2 : jGet L232 2 = some (.int (i32 (n))) := eL232 ▸ jg_ne (by decide) gL231_2 rfl
                        have gL232_5 : jGet L232 5 = some (.int (i32 (r55))) := eL232 ▸ jg_ne (by decide) gL231_5 rfl
                        have gL232_6 : jGet L232 6 = some (.int (i32 (r119))) := eL232 ▸ jg_ne (by decide) gL231_6 rfl
                        have gL232_3 : jGet L232 3 = some (.int (i32 (r55))) := eL232 ▸ jg_ne (by decide) gL231_3 rfl
                        have gL232_4 : jGet L232 4 = some (.int (i32 ((many + (1))))) := eL232 ▸ jg_eq
                        refine jx_go (tg := 24) rfl rfl ?_
                        exact ih24 _ (by omega) L232 G202 A203 (n) (r55) ((many + (1))) (ln2_120) (at2_121) (fk2_122) (nd2_123) (sy2_124) (na2_125) (vi2_126) (lf2_127) (ec2_128) rfl gL232_0 gL232_1 gL232_2 gL232_3 gL232_4 hW204 hF208 hP209 hS210 hV211 (((hF205.1 9 rfl).trans (e135))) (((hF205.1 10 rfl).trans (e136))) (((hF205.1 16 rfl).trans (e137))) (((hF205.1 31 rfl).trans (e138))) (((hF205.1 19 rfl).trans (e139))) (((hF205.1 28 rfl).trans (e140))) (((hF205.1 29 rfl).trans (e141))) ((congrFun ((hF205.2 3 rfl).trans ((congrFun eA188 3).trans (uA_ne (by decide)))) _).trans (e142)) (ec212) (by omega) (by omega) (by omega) (by omega) (by omega) (by omega) (by omega) (by omega) (by omega) (by omega) (by omega) (by omega) (by omega) (by omega) (by omega) (by omega) (by omega) (by omega) ((ND_sf sf225)) ((CL_eq (CL_sb (by omega) sf226) (by omega) (by omega) (by omega) (by omega) (by omega) (by omega))) (by omega) (by omega)
                    · have _q := h187
                      exact absurd h187 (by omega)
              · have _q := h116
                exact absurd h116 (by omega)
        · have _q := h29
          refine jx_ld (pc' := 40) (l' := L) (st' := [.ref 66]) rfl (jl_aloadn gL_0) ?_
          refine jx_ar (pc' := 41) (st' := [.int (i32 (1)), .ref 66]) rfl rfl rfl rfl ?_
          refine jx_ld (pc' := 42) (l' := L) (st' := [.ref 66, .int (i32 (1)), .ref 66]) rfl (jl_aloadn gL_0) ?_
          refine jr_get (pc' := 45) (i := 6) (v := .ref 70) rfl rfl (by decide) rfl rfl ?_
          refine jx_ld (pc' := 46) (l' := L) (st' := [.ref 66, .ref 70, .int (i32 (1)), .ref 66]) rfl (jl_aloadn gL_0) ?_
          refine jr_get (pc' := 49) (i := 9) (v := .int (i32 (ln1))) rfl rfl (by decide) (rFv_eq (by decide) (show G2 9 = ln1 from ((hF7.1 9 rfl).trans (ex_ln1)))) rfl ?_
          refine jr_ldv (pc' := 50) (i := 3) (m := 3001) (z := ln1) (y := lf1) rfl (by decide) rfl (by decide) (Int.le_trans (by decide : (0 : Int) ≤ 0) b_ln1.1) (Int.lt_of_le_of_lt b_ln1.2 (by decide : (3000 : Int) < ((3001 : Nat) : Int))) rfl (show A3 3 (ln1).toNat = lf1 from (congrFun (hF7.2 3 rfl) _).trans (ex_lf1)) ?_
          refine jx_ld (pc' := 51) (l' := L) (st' := [.ref 66, .int (i32 (lf1)), .int (i32 (1)), .ref 66]) rfl (jl_aloadn gL_0) ?_
          refine jr_get (pc' := 54) (i := 5) (v := .ref 69) rfl rfl (by decide) rfl rfl ?_
          refine jx_ld (pc' := 55) (l' := L) (st' := [.ref 66, .ref 69, .int (i32 (lf1)), .int (i32 (1)), .ref 66]) rfl (jl_aloadn gL_0) ?_
          refine jr_get (pc' := 58) (i := 9) (v := .int (i32 (ln1))) rfl rfl (by decide) (rFv_eq (by decide) (show G2 9 = ln1 from ((hF7.1 9 rfl).trans (ex_ln1)))) rfl ?_
          have b233 : (0 : Int) ≤ A 2 (ln1).toNat ∧ A 2 (ln1).toNat ≤ 3000 := hW.2 2 _
          refine jr_ldv (pc' := 59) (i := 2) (m := 3001) (z := ln1) (y := A 2 (ln1).toNat) rfl (by decide) rfl (by decide) (Int.le_trans (by decide : (0 : Int) ≤ 0) b_ln1.1) (Int.lt_of_le_of_lt b_ln1.2 (by decide : (3000 : Int) < ((3001 : Nat) : Int))) rfl (show A3 2 (ln1).toNat = A 2 (ln1).toNat from (congrFun ((hF7.2 2 rfl).trans (hFx.2 2 rfl)) _)) ?_
          refine jx_sub (pc' := 60) rfl rfl ?_
          refine jx_vr (pc' := 63) (as := [.int (i32 (1)), .int (i32 ((lf1 - A 2 (ln1).toNat)))]) (st := []) rfl rfl rfl rfl ⟨rfl, rfl, Nat.le_of_ble_eq_true rfl⟩ rfl rfl (c_fail (dd := d) (hd := by omega) (hW := hW6) (kind := 1) (place := (lf1 - A 2 (ln1).toNat)) (fk := fk2_5) (e_fk := show G2 16 = fk2_5 from (e9))  (h_kind := ⟨(by decide), (by decide)⟩) (h_place := ⟨(by omega), (by omega)⟩)  (p_0 := by omega) (p_1 := by omega)) (fun o V' hq => ?_)
          obtain ⟨G234, A235, fk2_236, rfl, rfl, hW237, hF238, e239, p240, -⟩ := hq
          have hF242 := Fr_tr hF11 hF238 (Fr_sub (by decide)) (Fr_sub (by decide))
          have hP243 := Pf_f hP12 hF238 (by decide)
          have hS244 := Fx_f hS13 hF238 (by decide)
          have hV245 := Fx_f hV14 hF238 (by decide)
          have sf246 : ND A235 (n) (32) (0) (0) (0) (0) (Ax 21 (n).toNat) (0) := ND_ag (by omega) (Ag_fr hF238 (by decide)) sf15
          have sf247 : CL 2 A235 (sy1) pb (k) (Vs) (n) (last) (many) (n + 1) (nd1) (sy) (sy1) := CL_ag (by omega) (by omega) (Sg_fr hF238 (by decide)) (Qg_fr hF238 (by decide)) (Ag_fr hF238 (by decide)) (congrFun (hF238.2 21 rfl) _) sf16
          have ec248 : ecn A235 (G234 31) = ec1 := (ecn_f (hF238.2 15 rfl) (hF238.1 31 rfl)).trans ec17
          have bfk2_236 : (0 : Int) ≤ fk2_236 ∧ fk2_236 ≤ 6 := e239 ▸ hW237.1 16
          refine .inl ⟨rfl, ?_⟩
          refine jx_ar (pc' := 64) (st' := [.int (i32 (0))]) rfl rfl rfl rfl ?_
          refine jx_rt (v := some (.int (i32 (0)))) rfl rfl rfl rfl rfl rfl ?_
          exact ⟨_, _, _, ln1, at1, fk2_236, nd1, sy1, na1, vi1, lf1, ec1, rfl, rfl, hW237, hF242, hP243, hS244, hV245, by omega, ((hF238.1 9 rfl).trans ((hF7.1 9 rfl).trans (ex_ln1))), ((hF238.1 10 rfl).trans ((hF7.1 10 rfl).trans (ex_at1))), (e239), ((hF238.1 31 rfl).trans ((hF7.1 31 rfl).trans (ex_nd1))), ((hF238.1 19 rfl).trans ((hF7.1 19 rfl).trans (ex_sy1))), ((hF238.1 28 rfl).trans ((hF7.1 28 rfl).trans (ex_na1))), ((hF238.1 29 rfl).trans ((hF7.1 29 rfl).trans (ex_vi1))), (congrFun ((hF238.2 3 rfl).trans (hF7.2 3 rfl)) _).trans (ex_lf1), ec248, by omega, by omega, by omega, by omega, by omega, by omega, by omega, by omega, by omega, by omega, by first | exact Or.inl (⟨by omega, by omega⟩)⟩
    · have _q : True := trivial
      refine jx_if_eq (pc' := 32) (tg := 130) rfl rfl rfl (by decide) (by decide) (fun h249 => ?_) (fun h249 => ?_)
      · have _q := h249
        refine jx_ld (pc' := 131) (l' := L) (st' := [.ref 66]) rfl (jl_aloadn gL_0) ?_
        refine jx_vr (pc' := 134) (as := []) (st := []) rfl rfl rfl rfl ⟨rfl, rfl, Nat.le_of_ble_eq_true rfl⟩ rfl rfl (c_bad (dd := d) (hd := by omega) (hW := hW6)  (fk := fk2_5) (e_fk := show G2 16 = fk2_5 from (e9))    ) (fun o V' hq => ?_)
        obtain ⟨r250, rfl, rfl, b251, q252⟩ := hq
        refine .inr ⟨_, rfl, ?_⟩
        rcases q252 with ⟨rfl, a253⟩ | ⟨rfl, a254⟩
        · have _q : True := trivial
          refine jx_if_ne (pc' := 137) (tg := 150) rfl rfl rfl (by decide) (by decide) (fun h255 => ?_) (fun h255 => ?_)
          · have _q := h255
            refine jx_ld (pc' := 151) (l' := L) (st' := [.ref 66]) rfl (jl_aloadn gL_0) ?_
            refine jr_get (pc' := 154) (i := 35) (v := .ref 85) rfl rfl (by decide) rfl rfl ?_
            refine jx_ld (pc' := 155) (l' := L) (st' := [.int (i32 (n)), .ref 85]) rfl (jl_iloadn gL_2) ?_
            refine jx_ld (pc' := 157) (l' := L) (st' := [.int (i32 (many)), .int (i32 (n)), .ref 85]) rfl (jl_iload gL_4) ?_
            refine jr_st (pc' := 158) (i := 18) (m := 7000) (z := n) (y := many) rfl (by decide) rfl (by decide) (by omega) (by omega) rfl ?_
            have hW257 : Wk G2 (uA A3 18 (n).toNat (many)) := Wk_a hW6 (show (-2147483648 : Int) ≤ many by omega) (show many ≤ (2147483647 : Int) by omega)
            have hF258 := Fr_a (z := many) (k := 18) (n := (n).toNat) hF11 (by decide)
            obtain ⟨A256, eA256⟩ : ∃ q, q = uA A3 18 (n).toNat (many) := ⟨_, rfl⟩
            rw [← eA256]
            rw [← eA256] at hW257 hF258
            have q259 : A256 18 (n).toNat = many := by rw [eA256]; exact uA_eq
            have hP260 : Pf nd A A256 := eA256 ▸ Pf_a hP12 (z := n) (by omega) (by omega)
            have hS261 : Fx sr (sy) A A256 := eA256 ▸ Fx_n hS13 rfl
            have hV262 : Fx [14] (vi) A A256 := eA256 ▸ Fx_n hV14 rfl
            have sf263 : ND A256 (n) (32) (0) (many) (0) (0) (Ax 21 (n).toNat) (0) := ND_b eA256 sf15
            have sf264 : CL 2 A256 (sy1) pb (k) (Vs) (n) (last) (many) (n + 1) (nd1) (sy) (sy1) := CL_ag (by omega) (by omega) (Sg_ne eA256 rfl) (Qg_ne eA256 rfl) (Ag_st eA256 (by omega) (by omega)) ((congrFun ((congrFun eA256 21).trans (uA_ne (by decide))) _)) sf16
            have ec265 : ecn A256 (G2 31) = ec1 := (ecn_e ((congrFun eA256 15).trans (uA_ne (by decide)))).trans ec17
            refine jx_ld (pc' := 159) (l' := L) (st' := [.int (i32 (n))]) rfl (jl_iloadn gL_2) ?_
            refine jx_rt (v := some (.int (i32 (n)))) rfl rfl rfl rfl rfl rfl ?_
            exact ⟨_, _, _, ln1, at1, fk2_5, nd1, sy1, na1, vi1, lf1, ec1, rfl, rfl, hW257, hF258, hP260, hS261, hV262, by omega, ((hF7.1 9 rfl).trans (ex_ln1)), ((hF7.1 10 rfl).trans (ex_at1)), (e9), ((hF7.1 31 rfl).trans (ex_nd1)), ((hF7.1 19 rfl).trans (ex_sy1)), ((hF7.1 28 rfl).trans (ex_na1)), ((hF7.1 29 rfl).trans (ex_vi1)), (congrFun (((congrFun eA256 3).trans (uA_ne (by decide))).trans (hF7.2 3 rfl)) _).trans (ex_lf1), ec265, by omega, by omega, by omega, by omega, by omega, by omega, by omega, by omega, by omega, by omega, by first | exact Or.inl (⟨by omega, by omega⟩)⟩
          · have _q := h255
            exact absurd h255 (by omega)
        · have _q : True := trivial
          exfalso
          omega
      · have _q := h249
        exact absurd h249 (by omega)
    · have _q : True := trivial
      refine jx_if_eq (pc' := 32) (tg := 130) rfl rfl rfl (by decide) (by decide) (fun h266 => ?_) (fun h266 => ?_)
      · have _q := h266
        refine jx_ld (pc' := 131) (l' := L) (st' := [.ref 66]) rfl (jl_aloadn gL_0) ?_
        refine jx_vr (pc' := 134) (as := []) (st := []) rfl rfl rfl rfl ⟨rfl, rfl, Nat.le_of_ble_eq_true rfl⟩ rfl rfl (c_bad (dd := d) (hd := by omega) (hW := hW6)  (fk := fk2_5) (e_fk := show G2 16 = fk2_5 from (e9))    ) (fun o V' hq => ?_)
        obtain ⟨r267, rfl, rfl, b268, q269⟩ := hq
        refine .inr ⟨_, rfl, ?_⟩
        rcases q269 with ⟨rfl, a270⟩ | ⟨rfl, a271⟩
        · have _q : True := trivial
          exfalso
          omega
        · have _q : True := trivial
          refine jx_if_ne (pc' := 137) (tg := 150) rfl rfl rfl (by decide) (by decide) (fun h272 => ?_) (fun h272 => ?_)
          · have _q := h272
            exact absurd h272 (by omega)
          · have _q := h272
            refine jx_ld (pc' := 139) (l' := L) (st' := [.int (i32 (many))]) rfl (jl_iload gL_4) ?_
            refine jx_if_ne (pc' := 142) (tg := 150) rfl rfl rfl (Int.le_trans (by decide : (-2147483648 : Int) ≤ -2147483648) rx_many.1) (Int.le_trans rx_many.2 (by decide : (2147483647 : Int) ≤ 2147483647)) (fun h273 => ?_) (fun h273 => ?_)
            · have _q := h273
              refine jx_ld (pc' := 151) (l' := L) (st' := [.ref 66]) rfl (jl_aloadn gL_0) ?_
              refine jr_get (pc' := 154) (i := 35) (v := .ref 85) rfl rfl (by decide) rfl rfl ?_
              refine jx_ld (pc' := 155) (l' := L) (st' := [.int (i32 (n)), .ref 85]) rfl (jl_iloadn gL_2) ?_
              refine jx_ld (pc' := 157) (l' := L) (st' := [.int (i32 (many)), .int (i32 (n)), .ref 85]) rfl (jl_iload gL_4) ?_
              refine jr_st (pc' := 158) (i := 18) (m := 7000) (z := n) (y := many) rfl (by decide) rfl (by decide) (by omega) (by omega) rfl ?_
              have hW275 : Wk G2 (uA A3 18 (n).toNat (many)) := Wk_a hW6 (show (-2147483648 : Int) ≤ many by omega) (show many ≤ (2147483647 : Int) by omega)
              have hF276 := Fr_a (z := many) (k := 18) (n := (n).toNat) hF11 (by decide)
              obtain ⟨A274, eA274⟩ : ∃ q, q = uA A3 18 (n).toNat (many) := ⟨_, rfl⟩
              rw [← eA274]
              rw [← eA274] at hW275 hF276
              have q277 : A274 18 (n).toNat = many := by rw [eA274]; exact uA_eq
              have hP278 : Pf nd A A274 := eA274 ▸ Pf_a hP12 (z := n) (by omega) (by omega)
              have hS279 : Fx sr (sy) A A274 := eA274 ▸ Fx_n hS13 rfl
              have hV280 : Fx [14] (vi) A A274 := eA274 ▸ Fx_n hV14 rfl
              have sf281 : ND A274 (n) (32) (0) (many) (0) (0) (Ax 21 (n).toNat) (0) := ND_b eA274 sf15
              have sf282 : CL 2 A274 (sy1) pb (k) (Vs) (n) (last) (many) (n + 1) (nd1) (sy) (sy1) := CL_ag (by omega) (by omega) (Sg_ne eA274 rfl) (Qg_ne eA274 rfl) (Ag_st eA274 (by omega) (by omega)) ((congrFun ((congrFun eA274 21).trans (uA_ne (by decide))) _)) sf16
              have ec283 : ecn A274 (G2 31) = ec1 := (ecn_e ((congrFun eA274 15).trans (uA_ne (by decide)))).trans ec17
              refine jx_ld (pc' := 159) (l' := L) (st' := [.int (i32 (n))]) rfl (jl_iloadn gL_2) ?_
              refine jx_rt (v := some (.int (i32 (n)))) rfl rfl rfl rfl rfl rfl ?_
              exact ⟨_, _, _, ln1, at1, fk2_5, nd1, sy1, na1, vi1, lf1, ec1, rfl, rfl, hW275, hF276, hP278, hS279, hV280, by omega, ((hF7.1 9 rfl).trans (ex_ln1)), ((hF7.1 10 rfl).trans (ex_at1)), (e9), ((hF7.1 31 rfl).trans (ex_nd1)), ((hF7.1 19 rfl).trans (ex_sy1)), ((hF7.1 28 rfl).trans (ex_na1)), ((hF7.1 29 rfl).trans (ex_vi1)), (congrFun (((congrFun eA274 3).trans (uA_ne (by decide))).trans (hF7.2 3 rfl)) _).trans (ex_lf1), ec283, by omega, by omega, by omega, by omega, by omega, by omega, by omega, by omega, by omega, by omega, by first | exact Or.inr ((⟨by omega, by omega, by omega, by omega, by omega, by omega, by omega, (wS_alt sf281 (RL_eq (RL_cl sf282) (by omega) (by omega) (by omega) (by omega) (by omega)) (by omega) (by omega)), (NX_nd sf281), by omega, by omega⟩))⟩
            · have _q := h273
              refine jx_ld (pc' := 143) (l' := L) (st' := [.ref 66]) rfl (jl_aloadn gL_0) ?_
              refine jx_ld (pc' := 144) (l' := L) (st' := [.int (i32 (lv)), .ref 66]) rfl (jl_iloadn gL_1) ?_
              refine jx_ar (pc' := 145) (st' := [.int (i32 (1)), .int (i32 (lv)), .ref 66]) rfl rfl rfl rfl ?_
              refine jx_add (pc' := 146) rfl rfl ?_
              refine jx_vr (pc' := 149) (as := [.int (i32 ((lv + 1)))]) (st := []) rfl rfl rfl rfl ⟨rfl, rfl, Nat.le_of_ble_eq_true rfl⟩ rfl rfl (c_needLevel (dd := d) (hd := by omega) (hW := hW6) (lv := (lv + 1)) (ln := ln1) (e_ln := show G2 9 = ln1 from ((hF7.1 9 rfl).trans (ex_ln1))) (li := li) (e_li := show G2 3 = li from ((hF7.1 3 rfl).trans ((hFx.1 3 rfl).trans (e_li)))) (fk := fk2_5) (e_fk := show G2 16 = fk2_5 from (e9)) (ll := A 5 (ln1).toNat) (e_ll := show A3 5 (ln1).toNat = A 5 (ln1).toNat from (congrFun ((hF7.2 5 rfl).trans (hFx.2 5 rfl)) _))  (h_lv := ⟨(by omega), (by omega)⟩)  ) (fun o V' hq => ?_)
              obtain ⟨G284, A285, r286, fk2_287, rfl, rfl, hW288, hF289, b290, e291, q292⟩ := hq
              have hF293 := Fr_tr hF11 hF289 (Fr_sub (by decide)) (Fr_sub (by decide))
              have hP294 := Pf_f hP12 hF289 (by decide)
              have hS295 := Fx_f hS13 hF289 (by decide)
              have hV296 := Fx_f hV14 hF289 (by decide)
              have sf297 : ND A285 (n) (32) (0) (0) (0) (0) (Ax 21 (n).toNat) (0) := ND_ag (by omega) (Ag_fr hF289 (by decide)) sf15
              have sf298 : CL 2 A285 (sy1) pb (k) (Vs) (n) (last) (many) (n + 1) (nd1) (sy) (sy1) := CL_ag (by omega) (by omega) (Sg_fr hF289 (by decide)) (Qg_fr hF289 (by decide)) (Ag_fr hF289 (by decide)) (congrFun (hF289.2 21 rfl) _) sf16
              have ec299 : ecn A285 (G284 31) = ec1 := (ecn_f (hF289.2 15 rfl) (hF289.1 31 rfl)).trans ec17
              have bfk2_287 : (0 : Int) ≤ fk2_287 ∧ fk2_287 ≤ 6 := e291 ▸ hW288.1 16
              refine .inr ⟨_, rfl, ?_⟩
              rcases q292 with ⟨rfl, a300, a301, a302, a303⟩ | ⟨rfl, a304⟩
              · have _q : True := trivial
                have b305 : (0 : Int) ≤ A 4 (ln1).toNat ∧ A 4 (ln1).toNat ≤ 3000 := hW.2 4 _
                have lt306 : lf1 < A 4 (ln1).toNat := LT_at (LT_ext (((hF289.1 3 rfl).trans ((hF7.1 3 rfl).trans (hFx.1 3 rfl)))) (((hF289.2 3 rfl).trans ((hF7.2 3 rfl).trans (hFx.2 3 rfl)))) (((hF289.2 4 rfl).trans ((hF7.2 4 rfl).trans (hFx.2 4 rfl)))) i_LT) (show G284 3 = li from ((hF289.1 3 rfl).trans ((hF7.1 3 rfl).trans ((hFx.1 3 rfl).trans (e_li))))) (show A285 3 (ln1).toNat = lf1 from (congrFun ((hF289.2 3 rfl).trans (hF7.2 3 rfl)) _).trans (ex_lf1)) (show A285 4 (ln1).toNat = A 4 (ln1).toNat from (congrFun ((hF289.2 4 rfl).trans ((hF7.2 4 rfl).trans (hFx.2 4 rfl))) _)) (by omega) (by omega)
                refine jx_ar (pc' := 150) (st' := []) rfl rfl rfl rfl ?_
                refine jx_ld (pc' := 151) (l' := L) (st' := [.ref 66]) rfl (jl_aloadn gL_0) ?_
                refine jr_get (pc' := 154) (i := 35) (v := .ref 85) rfl rfl (by decide) rfl rfl ?_
                refine jx_ld (pc' := 155) (l' := L) (st' := [.int (i32 (n)), .ref 85]) rfl (jl_iloadn gL_2) ?_
                refine jx_ld (pc' := 157) (l' := L) (st' := [.int (i32 (many)), .int (i32 (n)), .ref 85]) rfl (jl_iload gL_4) ?_
                refine jr_st (pc' := 158) (i := 18) (m := 7000) (z := n) (y := many) rfl (by decide) rfl (by decide) (by omega) (by omega) rfl ?_
                have hW308 : Wk G284 (uA A285 18 (n).toNat (many)) := Wk_a hW288 (show (-2147483648 : Int) ≤ many by omega) (show many ≤ (2147483647 : Int) by omega)
                have hF309 := Fr_a (z := many) (k := 18) (n := (n).toNat) hF293 (by decide)
                obtain ⟨A307, eA307⟩ : ∃ q, q = uA A285 18 (n).toNat (many) := ⟨_, rfl⟩
                rw [← eA307]
                rw [← eA307] at hW308 hF309
                have q310 : A307 18 (n).toNat = many := by rw [eA307]; exact uA_eq
                have hP311 : Pf nd A A307 := eA307 ▸ Pf_a hP294 (z := n) (by omega) (by omega)
                have hS312 : Fx sr (sy) A A307 := eA307 ▸ Fx_n hS295 rfl
                have hV313 : Fx [14] (vi) A A307 := eA307 ▸ Fx_n hV296 rfl
                have sf314 : ND A307 (n) (32) (0) (many) (0) (0) (Ax 21 (n).toNat) (0) := ND_b eA307 sf297
                have sf315 : CL 2 A307 (sy1) pb (k) (Vs) (n) (last) (many) (n + 1) (nd1) (sy) (sy1) := CL_ag (by omega) (by omega) (Sg_ne eA307 rfl) (Qg_ne eA307 rfl) (Ag_st eA307 (by omega) (by omega)) ((congrFun ((congrFun eA307 21).trans (uA_ne (by decide))) _)) sf298
                have ec316 : ecn A307 (G284 31) = ec1 := (ecn_e ((congrFun eA307 15).trans (uA_ne (by decide)))).trans ec299
                refine jx_ld (pc' := 159) (l' := L) (st' := [.int (i32 (n))]) rfl (jl_iloadn gL_2) ?_
                refine jx_rt (v := some (.int (i32 (n)))) rfl rfl rfl rfl rfl rfl ?_
                exact ⟨_, _, _, ln1, at1, fk2_287, nd1, sy1, na1, vi1, lf1, ec1, rfl, rfl, hW308, hF309, hP311, hS312, hV313, by omega, ((hF289.1 9 rfl).trans ((hF7.1 9 rfl).trans (ex_ln1))), ((hF289.1 10 rfl).trans ((hF7.1 10 rfl).trans (ex_at1))), (e291), ((hF289.1 31 rfl).trans ((hF7.1 31 rfl).trans (ex_nd1))), ((hF289.1 19 rfl).trans ((hF7.1 19 rfl).trans (ex_sy1))), ((hF289.1 28 rfl).trans ((hF7.1 28 rfl).trans (ex_na1))), ((hF289.1 29 rfl).trans ((hF7.1 29 rfl).trans (ex_vi1))), (congrFun (((congrFun eA307 3).trans (uA_ne (by decide))).trans ((hF289.2 3 rfl).trans (hF7.2 3 rfl))) _).trans (ex_lf1), ec316, by omega, by omega, by omega, by omega, by omega, by omega, by omega, by omega, by omega, by omega, by first | exact Or.inr ((⟨by omega, by omega, by omega, by omega, by omega, by omega, by omega, (wS_alt sf314 (RL_eq (RL_cl sf315) (by omega) (by omega) (by omega) (by omega) (by omega)) (by omega) (by omega)), (NX_nd sf314), by omega, by omega⟩))⟩
              · have _q : True := trivial
                refine jx_ar (pc' := 150) (st' := []) rfl rfl rfl rfl ?_
                refine jx_ld (pc' := 151) (l' := L) (st' := [.ref 66]) rfl (jl_aloadn gL_0) ?_
                refine jr_get (pc' := 154) (i := 35) (v := .ref 85) rfl rfl (by decide) rfl rfl ?_
                refine jx_ld (pc' := 155) (l' := L) (st' := [.int (i32 (n)), .ref 85]) rfl (jl_iloadn gL_2) ?_
                refine jx_ld (pc' := 157) (l' := L) (st' := [.int (i32 (many)), .int (i32 (n)), .ref 85]) rfl (jl_iload gL_4) ?_
                refine jr_st (pc' := 158) (i := 18) (m := 7000) (z := n) (y := many) rfl (by decide) rfl (by decide) (by omega) (by omega) rfl ?_
                have hW318 : Wk G284 (uA A285 18 (n).toNat (many)) := Wk_a hW288 (show (-2147483648 : Int) ≤ many by omega) (show many ≤ (2147483647 : Int) by omega)
                have hF319 := Fr_a (z := many) (k := 18) (n := (n).toNat) hF293 (by decide)
                obtain ⟨A317, eA317⟩ : ∃ q, q = uA A285 18 (n).toNat (many) := ⟨_, rfl⟩
                rw [← eA317]
                rw [← eA317] at hW318 hF319
                have q320 : A317 18 (n).toNat = many := by rw [eA317]; exact uA_eq
                have hP321 : Pf nd A A317 := eA317 ▸ Pf_a hP294 (z := n) (by omega) (by omega)
                have hS322 : Fx sr (sy) A A317 := eA317 ▸ Fx_n hS295 rfl
                have hV323 : Fx [14] (vi) A A317 := eA317 ▸ Fx_n hV296 rfl
                have sf324 : ND A317 (n) (32) (0) (many) (0) (0) (Ax 21 (n).toNat) (0) := ND_b eA317 sf297
                have sf325 : CL 2 A317 (sy1) pb (k) (Vs) (n) (last) (many) (n + 1) (nd1) (sy) (sy1) := CL_ag (by omega) (by omega) (Sg_ne eA317 rfl) (Qg_ne eA317 rfl) (Ag_st eA317 (by omega) (by omega)) ((congrFun ((congrFun eA317 21).trans (uA_ne (by decide))) _)) sf298
                have ec326 : ecn A317 (G284 31) = ec1 := (ecn_e ((congrFun eA317 15).trans (uA_ne (by decide)))).trans ec299
                refine jx_ld (pc' := 159) (l' := L) (st' := [.int (i32 (n))]) rfl (jl_iloadn gL_2) ?_
                refine jx_rt (v := some (.int (i32 (n)))) rfl rfl rfl rfl rfl rfl ?_
                exact ⟨_, _, _, ln1, at1, fk2_287, nd1, sy1, na1, vi1, lf1, ec1, rfl, rfl, hW318, hF319, hP321, hS322, hV323, by omega, ((hF289.1 9 rfl).trans ((hF7.1 9 rfl).trans (ex_ln1))), ((hF289.1 10 rfl).trans ((hF7.1 10 rfl).trans (ex_at1))), (e291), ((hF289.1 31 rfl).trans ((hF7.1 31 rfl).trans (ex_nd1))), ((hF289.1 19 rfl).trans ((hF7.1 19 rfl).trans (ex_sy1))), ((hF289.1 28 rfl).trans ((hF7.1 28 rfl).trans (ex_na1))), ((hF289.1 29 rfl).trans ((hF7.1 29 rfl).trans (ex_vi1))), (congrFun (((congrFun eA317 3).trans (uA_ne (by decide))).trans ((hF289.2 3 rfl).trans (hF7.2 3 rfl))) _).trans (ex_lf1), ec326, by omega, by omega, by omega, by omega, by omega, by omega, by omega, by omega, by omega, by omega, by first | exact Or.inl (⟨by omega, by omega⟩)⟩
      · have _q := h266
        exact absurd h266 (by omega)
set_option maxRecDepth 20000 in
set_option maxHeartbeats 4000000 in
theorem c_readAlt_w {X : jX} {k : Nat} (hP : RPw X k) {dd : Nat} {Vs : Nat → Prop} {sb pb : Int} (hvb : VB Vs sb) {c0 c1 : jC} {G : Nat → Int} {A : Nat → Nat → Int} {T : jH} {lv : Int} {ln li at0 fk nd sy na vi le op0 tk0 ec : Int} (hd : 8 * k + 82 ≤ dd) (hW : Wk G A) (e_ln : G 9 = ln) (e_li : G 3 = li) (e_at0 : G 10 = at0) (e_fk : G 16 = fk) (e_nd : G 31 = nd) (e_sy : G 19 = sy) (e_na : G 28 = na) (e_vi : G 29 = vi) (e_le : A 4 (ln).toNat = le) (e_op0 : G 15 = op0) (e_tk0 : G 11 = tk0) (e_ec : ecn A (G 31) = ec) (i_LT : LT G A) (i_SV : SV Vs sb G A) (i_PQ : PQ Vs sb pb G A) (h_lv : (-2147483648 : Int) ≤ lv ∧ lv ≤ 2147483647) (p_0 : 0 ≤ lv ∧ lv ≤ 15) (p_1 : 18 - lv ≤ ((k + 1 : Nat) : Int)) (p_2 : fk = 0) (p_3 : ln < li) (p_4 : at0 ≤ le) (p_5 : op0 = 0) (p_6 : nd ≤ 2 * at0 - tz tk0 + 30) (p_7 : sy ≤ na + 2) (p_8 : vi ≤ sy) (p_9 : sb = sy) (p_10 : 1 ≤ tk0) : wk X dd 302 [.ref 66, .int (i32 lv)] (rV c0 c1 G A T) (fun o V' => ∃ (G' : Nat → Int) (A' : Nat → Nat → Int) (r : Int) (ln2 : Int) (at2 : Int) (fk2 : Int) (nd2 : Int) (sy2 : Int) (na2 : Int) (vi2 : Int) (lf2 : Int) (ec2 : Int), V' = rV c0 c1 G' A' T ∧ o = .inl (some (.int (i32 r))) ∧ Wk G' A' ∧ Fr [9, 10, 11, 12, 13, 14, 15, 16, 17, 18, 19, 28, 29, 31] [6, 7, 8, 9, 10, 11, 12, 14, 15, 16, 17, 18, 19, 20, 21, 22, 23, 24, 28] G A G' A' ∧ Pf nd A A' ∧ Fx sr (sy) A A' ∧ Fx [14] (vi) A A' ∧ ((-2147483648 : Int) ≤ r ∧ r ≤ 2147483647) ∧ G' 9 = ln2 ∧ G' 10 = at2 ∧ G' 16 = fk2 ∧ G' 31 = nd2 ∧ G' 19 = sy2 ∧ G' 28 = na2 ∧ G' 29 = vi2 ∧ A' 3 (ln2).toNat = lf2 ∧ ecn A' (G' 31) = ec2 ∧ (at0 ≤ at2) ∧ (nd ≤ nd2) ∧ (sy ≤ sy2) ∧ (sy2 ≤ na2 + 2) ∧ (vi ≤ vi2) ∧ (vi2 ≤ vi + 1) ∧ (0 ≤ r) ∧ (r ≤ 6999) ∧ (ln ≤ ln2) ∧ (ln2 ≤ li) ∧ (((1 ≤ fk2) ∧ (nd2 - nd ≤ 2 * at2 - (2 * at0 - tz tk0) + 14)) ∨ ((fk2 = 0) ∧ (vi2 = vi) ∧ (ln < ln2) ∧ (nd2 - nd ≤ 2 * at2 - (2 * at0 - tz tk0)) ∧ (at2 < lf2 ∨ li ≤ ln2) ∧ (nd ≤ r) ∧ (r < nd2) ∧ (wSt A' (sy2) pb (wP A' (sy2) pb (k)) (Vs) (r) (nd) (nd2) (sy) (sy2)) ∧ (NX A' (r)) ∧ (nd2 - nd + 5 * (ec2 - ec) ≤ 2 * at2 - (2 * at0 - tz tk0)) ∧ (nd + 5 * ec ≤ r)))) := by
  obtain ⟨d, rfl⟩ : ∃ d, dd = d + 1 := ⟨dd - 1, by omega⟩
  refine wk_of (e := jm302) rfl (Nat.le_of_ble_eq_true rfl) ?_
  show wj X d jm302 (0, [(0, .ref 66), (1, .int (i32 (lv)))], [], rV c0 c1 G A T) _
  have hF0 : Fr [9, 10, 11, 12, 13, 14, 15, 16, 17, 18, 19, 28, 29, 31] [6, 7, 8, 9, 10, 11, 12, 14, 15, 16, 17, 18, 19, 20, 21, 22, 23, 24, 28] G A G A := Fr_rf
  have hP0 : Pf nd A A := Pf_rf
  have hS0 : Fx sr (sy) A A := Fx_rf
  have hV0 : Fx [14] (vi) A A := Fx_rf
  have b_ln : (0 : Int) ≤ ln ∧ ln ≤ 3000 := e_ln ▸ hW.1 9
  have b_li : (0 : Int) ≤ li ∧ li ≤ 3000 := e_li ▸ hW.1 3
  have b_at0 : (0 : Int) ≤ at0 ∧ at0 ≤ 3002 := e_at0 ▸ hW.1 10
  have b_fk : (0 : Int) ≤ fk ∧ fk ≤ 6 := e_fk ▸ hW.1 16
  have b_nd : (0 : Int) ≤ nd ∧ nd ≤ 6999 := e_nd ▸ hW.1 31
  have b_sy : (0 : Int) ≤ sy ∧ sy ≤ 202 := e_sy ▸ hW.1 19
  have b_na : (0 : Int) ≤ na ∧ na ≤ 200 := e_na ▸ hW.1 28
  have b_vi : (0 : Int) ≤ vi ∧ vi ≤ 202 := e_vi ▸ hW.1 29
  have b_le : (0 : Int) ≤ le ∧ le ≤ 3000 := e_le ▸ hW.2 4 _
  have b_op0 : (-2147483648 : Int) ≤ op0 ∧ op0 ≤ 2147483647 := e_op0 ▸ hW.1 15
  have z_tk0 := tz_f tk0
  have b_tk0 : (0 : Int) ≤ tk0 ∧ tk0 ≤ 5 := e_tk0 ▸ hW.1 11
  refine jx_ld (pc' := 1) (l' := [(0, .ref 66), (1, .int (i32 (lv)))]) (st' := [.ref 66]) rfl (jl_aloadn rfl) ?_
  refine jx_ar (pc' := 3) (st' := [.int (i32 (32)), .ref 66]) rfl rfl rfl rfl ?_
  refine jx_ar (pc' := 4) (st' := [.int (i32 (0)), .int (i32 (32)), .ref 66]) rfl rfl rfl rfl ?_
  refine jx_ar (pc' := 5) (st' := [.int (i32 (0)), .int (i32 (0)), .int (i32 (32)), .ref 66]) rfl rfl rfl rfl ?_
  refine jx_ar (pc' := 6) (st' := [.int (i32 (0)), .int (i32 (0)), .int (i32 (0)), .int (i32 (32)), .ref 66]) rfl rfl rfl rfl ?_
  refine jx_ar (pc' := 7) (st' := [.int (i32 (0)), .int (i32 (0)), .int (i32 (0)), .int (i32 (0)), .int (i32 (32)), .ref 66]) rfl rfl rfl rfl ?_
  refine jx_vr (pc' := 10) (as := [.int (i32 (32)), .int (i32 (0)), .int (i32 (0)), .int (i32 (0)), .int (i32 (0))]) (st := []) rfl rfl rfl rfl ⟨rfl, rfl, Nat.le_of_ble_eq_true rfl⟩ rfl rfl (c_node_o (dd := d) (hd := by omega) (hW := hW) (kind := 32) (a := 0) (b := 0) (c := 0) (e := 0) (nd := nd) (e_nd := show G 31 = nd from (e_nd)) (ec := ec) (e_ec := show ecn A (G 31) = ec from e_ec)  (h_kind := ⟨(by decide), (by decide)⟩) (h_a := ⟨(by decide), (by decide)⟩) (h_b := ⟨(by decide), (by decide)⟩) (h_c := ⟨(by decide), (by decide)⟩) (h_e := ⟨(by decide), (by decide)⟩)  (p_0 := by omega) (p_1 := by omega) (p_2 := by omega)) (fun o V' hq => ?_)
  obtain ⟨G327, A328, nd2_329, ec2_330, rfl, rfl, hW331, hF332, hQ333, e334, e335, p336, p337, p338, -⟩ := hq
  have hF340 := Fr_tr hF0 hF332 (Fr_sub (by decide)) (Fr_sub (by decide))
  have hP341 := Pf_tr hP0 hQ333 (by omega)
  have hS342 := Fx_f hS0 hF332 (by decide)
  have hV343 := Fx_f hV0 hF332 (by decide)
  have bnd2_329 : (0 : Int) ≤ nd2_329 ∧ nd2_329 ≤ 6999 := e334 ▸ hW331.1 31
  refine .inr ⟨_, rfl, ?_⟩
  refine jx_ld (pc' := 11) (l' := jSto1 [(0, .ref 66), (1, .int (i32 (lv)))] 2 (.int (i32 (nd)))) (st' := []) rfl rfl ?_
  obtain ⟨L344, eL344⟩ : ∃ q, q = jSto1 [(0, .ref 66), (1, .int (i32 (lv)))] 2 (.int (i32 (nd))) := ⟨_, rfl⟩
  rw [← eL344]
  have gL344_0 : jGet L344 0 = some (.ref 66) := eL344 ▸ jg_ne (by decide) (rfl : jGet [(0, .ref 66), (1, .int (i32 (lv)))] 0 = some (.ref 66)) rfl
  have gL344_1 : jGet L344 1 = some (.int (i32 (lv))) := eL344 ▸ jg_ne (by decide) (rfl : jGet [(0, .ref 66), (1, .int (i32 (lv)))] 1 = some (.int (i32 (lv)))) rfl
  have gL344_2 : jGet L344 2 = some (.int (i32 (nd))) := eL344 ▸ jg_eq
  refine jx_ld (pc' := 12) (l' := L344) (st' := [.ref 66]) rfl (jl_aloadn gL344_0) ?_
  refine jx_vr (pc' := 15) (as := []) (st := []) rfl rfl rfl rfl ⟨rfl, rfl, Nat.le_of_ble_eq_true rfl⟩ rfl rfl (c_next (dd := d) (hd := by omega) (hW := hW331)  (ln := ln) (e_ln := show G327 9 = ln from ((hF332.1 9 rfl).trans (e_ln))) (le := le) (e_le := show A328 4 (ln).toNat = le from (congrFun (hF332.2 4 rfl) _).trans (e_le)) (at0 := at0) (e_at0 := show G327 10 = at0 from ((hF332.1 10 rfl).trans (e_at0)))    (p_0 := by omega)) (fun o V' hq => ?_)
  obtain ⟨G345, A346, at2_347, tk2_348, rfl, rfl, hW349, hF350, e351, e352, p353, p354, p355, -⟩ := hq
  have hF357 := Fr_tr hF340 hF350 (Fr_sub (by decide)) (Fr_sub (by decide))
  have hP358 := Pf_f hP341 hF350 (by decide)
  have hS359 := Fx_f hS342 hF350 (by decide)
  have hV360 := Fx_f hV343 hF350 (by decide)
  have sf361 : ND A346 (nd) (32) (0) (0) (0) (0) (0) (0) := ND_ag (by omega) (Ag_fr hF350 (by decide)) p338
  have ec362 : ecn A346 (G345 31) = ec2_330 := (ecn_f (hF350.2 15 rfl) (hF350.1 31 rfl)).trans e335
  have bat2_347 : (0 : Int) ≤ at2_347 ∧ at2_347 ≤ 3002 := e351 ▸ hW349.1 10
  have ztk2_348 := tz_b tk2_348
  have btk2_348 : (0 : Int) ≤ tk2_348 ∧ tk2_348 ≤ 5 := e352 ▸ hW349.1 11
  refine .inl ⟨rfl, ?_⟩
  have pz363 : at0 + tz tk2_348 ≤ at2_347 := by omega
  refine jx_ld (pc' := 16) (l' := L344) (st' := [.ref 66]) rfl (jl_aloadn gL344_0) ?_
  refine jx_vr (pc' := 19) (as := []) (st := []) rfl rfl rfl rfl ⟨rfl, rfl, Nat.le_of_ble_eq_true rfl⟩ rfl rfl (c_endLine (dd := d) (hd := by omega) (hW := hW349)  (ln := ln) (e_ln := show G345 9 = ln from ((hF350.1 9 rfl).trans ((hF332.1 9 rfl).trans (e_ln)))) (li := li) (e_li := show G345 3 = li from ((hF350.1 3 rfl).trans ((hF332.1 3 rfl).trans (e_li)))) (fk := fk) (e_fk := show G345 16 = fk from ((hF350.1 16 rfl).trans ((hF332.1 16 rfl).trans (e_fk)))) (tk0 := tk2_348) (e_tk0 := show G345 11 = tk2_348 from (e352))    (p_0 := by omega)) (fun o V' hq => ?_)
  obtain ⟨G364, A365, ln2_366, fk2_367, rfl, rfl, hW368, hF369, e370, e371, q372⟩ := hq
  have hF373 := Fr_tr hF357 hF369 (Fr_sub (by decide)) (Fr_sub (by decide))
  have hP374 := Pf_f hP358 hF369 (by decide)
  have hS375 := Fx_f hS359 hF369 (by decide)
  have hV376 := Fx_f hV360 hF369 (by decide)
  have sf377 : ND A365 (nd) (32) (0) (0) (0) (0) (0) (0) := ND_ag (by omega) (Ag_fr hF369 (by decide)) sf361
  have ec378 : ecn A365 (G364 31) = ec2_330 := (ecn_f (hF369.2 15 rfl) (hF369.1 31 rfl)).trans ec362
  have bln2_366 : (0 : Int) ≤ ln2_366 ∧ ln2_366 ≤ 3000 := e370 ▸ hW368.1 9
  have bfk2_367 : (0 : Int) ≤ fk2_367 ∧ fk2_367 ≤ 6 := e371 ▸ hW368.1 16
  refine .inl ⟨rfl, ?_⟩
  rcases q372 with ⟨a379, a380, a381, a382, a383⟩ | ⟨a384, a385⟩
  · have _q : True := trivial
    have b386 : (0 : Int) ≤ A 3 (ln2_366).toNat ∧ A 3 (ln2_366).toNat ≤ 3000 := hW.2 3 _
    have lt387 : ln2_366 < li → le < A 3 (ln2_366).toNat := fun hh => LT_nx (LT_ext (((hF369.1 3 rfl).trans ((hF350.1 3 rfl).trans (hF332.1 3 rfl)))) (((hF369.2 3 rfl).trans ((hF350.2 3 rfl).trans (hF332.2 3 rfl)))) (((hF369.2 4 rfl).trans ((hF350.2 4 rfl).trans (hF332.2 4 rfl)))) i_LT) (show G364 3 = li from ((hF369.1 3 rfl).trans ((hF350.1 3 rfl).trans ((hF332.1 3 rfl).trans (e_li))))) (show A365 4 (ln).toNat = le from (congrFun ((hF369.2 4 rfl).trans ((hF350.2 4 rfl).trans (hF332.2 4 rfl))) _).trans (e_le)) (show A365 3 (ln2_366).toNat = A 3 (ln2_366).toNat from (congrFun ((hF369.2 3 rfl).trans ((hF350.2 3 rfl).trans (hF332.2 3 rfl))) _)) (show ln2_366 = ln + 1 by omega) (by omega) hh
    refine jx_ar (pc' := 20) (st' := [.int (i32 (0))]) rfl rfl rfl rfl ?_
    refine jx_ld (pc' := 21) (l' := jSto1 L344 3 (.int (i32 (0)))) (st' := []) rfl rfl ?_
    obtain ⟨L388, eL388⟩ : ∃ q, q = jSto1 L344 3 (.int (i32 (0))) := ⟨_, rfl⟩
    rw [← eL388]
    have gL388_0 : jGet L388 0 = some (.ref 66) := eL388 ▸ jg_ne (by decide) gL344_0 rfl
    have gL388_1 : jGet L388 1 = some (.int (i32 (lv))) := eL388 ▸ jg_ne (by decide) gL344_1 rfl
    have gL388_2 : jGet L388 2 = some (.int (i32 (nd))) := eL388 ▸ jg_ne (by decide) gL344_2 rfl
    have gL388_3 : jGet L388 3 = some (.int (i32 (0))) := eL388 ▸ jg_eq
    refine jx_ar (pc' := 22) (st' := [.int (i32 (0))]) rfl rfl rfl rfl ?_
    refine jx_ld (pc' := 24) (l' := jSto1 L388 4 (.int (i32 (0)))) (st' := []) rfl rfl ?_
    obtain ⟨L389, eL389⟩ : ∃ q, q = jSto1 L388 4 (.int (i32 (0))) := ⟨_, rfl⟩
    rw [← eL389]
    have gL389_0 : jGet L389 0 = some (.ref 66) := eL389 ▸ jg_ne (by decide) gL388_0 rfl
    have gL389_1 : jGet L389 1 = some (.int (i32 (lv))) := eL389 ▸ jg_ne (by decide) gL388_1 rfl
    have gL389_2 : jGet L389 2 = some (.int (i32 (nd))) := eL389 ▸ jg_ne (by decide) gL388_2 rfl
    have gL389_3 : jGet L389 3 = some (.int (i32 (0))) := eL389 ▸ jg_ne (by decide) gL388_3 rfl
    have gL389_4 : jGet L389 4 = some (.int (i32 (0))) := eL389 ▸ jg_eq
    exact c_readAlt_w_at_24 (X := X) (k := k) (hP := hP) (d := d) (Vs := Vs) (sb := sb) (pb := pb) (hvb := hvb) (c0 := c0) (c1 := c1) (G := G) (A := A) (T := T) (lv := lv) (ln := ln) (li := li) (at0 := at0) (fk := fk) (nd := nd) (sy := sy) (na := na) (vi := vi) (le := le) (op0 := op0) (tk0 := tk0) (ec := ec) (hd := hd) (hW := hW) (e_ln := e_ln) (e_li := e_li) (e_at0 := e_at0) (e_fk := e_fk) (e_nd := e_nd) (e_sy := e_sy) (e_na := e_na) (e_vi := e_vi) (e_le := e_le) (e_op0 := e_op0) (e_tk0 := e_tk0) (e_ec := e_ec) (i_LT := i_LT) (i_SV := i_SV) (i_PQ := i_PQ) (h_lv := h_lv) (p_0 := p_0) (p_1 := p_1) (p_2 := p_2) (p_3 := p_3) (p_4 := p_4) (p_5 := p_5) (p_6 := p_6) (p_7 := p_7) (p_8 := p_8) (p_9 := p_9) (p_10 := p_10) _ L389 G364 A365 (nd) (0) (0) (ln2_366) (at2_347) (fk2_367) (nd2_329) (sy) (na) (vi) (A 3 (ln2_366).toNat) (ec2_330) rfl gL389_0 gL389_1 gL389_2 gL389_3 gL389_4 hW368 hF373 hP374 hS375 hV376 ((e370)) (((hF369.1 10 rfl).trans (e351))) ((e371)) (((hF369.1 31 rfl).trans ((hF350.1 31 rfl).trans (e334)))) (((hF369.1 19 rfl).trans ((hF350.1 19 rfl).trans ((hF332.1 19 rfl).trans (e_sy))))) (((hF369.1 28 rfl).trans ((hF350.1 28 rfl).trans ((hF332.1 28 rfl).trans (e_na))))) (((hF369.1 29 rfl).trans ((hF350.1 29 rfl).trans ((hF332.1 29 rfl).trans (e_vi))))) ((congrFun ((hF369.2 3 rfl).trans ((hF350.2 3 rfl).trans (hF332.2 3 rfl))) _)) (ec378) (by omega) (by omega) (by omega) (by omega) (by omega) (by omega) (by omega) (by omega) (by omega) (by omega) (by omega) (by omega) (by omega) (by omega) (by omega) (by omega) (by omega) (by omega) ((ND_sf sf377)) ((CL_eq (CL_nil (lo := nd + 1) (s0 := sy) (ND_f0 sf377)) (by omega) (by omega) (by omega) (by omega) (by omega) (by omega))) (by omega) (by omega)
  · have _q : True := trivial
    refine jx_ar (pc' := 20) (st' := [.int (i32 (0))]) rfl rfl rfl rfl ?_
    refine jx_ld (pc' := 21) (l' := jSto1 L344 3 (.int (i32 (0)))) (st' := []) rfl rfl ?_
    obtain ⟨L390, eL390⟩ : ∃ q, q = jSto1 L344 3 (.int (i32 (0))) := ⟨_, rfl⟩
    rw [← eL390]
    have gL390_0 : jGet L390 0 = some (.ref 66) := eL390 ▸ jg_ne (by decide) gL344_0 rfl
    have gL390_1 : jGet L390 1 = some (.int (i32 (lv))) := eL390 ▸ jg_ne (by decide) gL344_1 rfl
    have gL390_2 : jGet L390 2 = some (.int (i32 (nd))) := eL390 ▸ jg_ne (by decide) gL344_2 rfl
    have gL390_3 : jGet L390 3 = some (.int (i32 (0))) := eL390 ▸ jg_eq
    refine jx_ar (pc' := 22) (st' := [.int (i32 (0))]) rfl rfl rfl rfl ?_
    refine jx_ld (pc' := 24) (l' := jSto1 L390 4 (.int (i32 (0)))) (st' := []) rfl rfl ?_
    obtain ⟨L391, eL391⟩ : ∃ q, q = jSto1 L390 4 (.int (i32 (0))) := ⟨_, rfl⟩
    rw [← eL391]
    have gL391_0 : jGet L391 0 = some (.ref 66) := eL391 ▸ jg_ne (by decide) gL390_0 rfl
    have gL391_1 : jGet L391 1 = some (.int (i32 (lv))) := eL391 ▸ jg_ne (by decide) gL390_1 rfl
    have gL391_2 : jGet L391 2 = some (.int (i32 (nd))) := eL391 ▸ jg_ne (by decide) gL390_2 rfl
    have gL391_3 : jGet L391 3 = some (.int (i32 (0))) := eL391 ▸ jg_ne (by decide) gL390_3 rfl
    have gL391_4 : jGet L391 4 = some (.int (i32 (0))) := eL391 ▸ jg_eq
    refine jx_ld (pc' := 25) (l' := L391) (st' := [.ref 66]) rfl (jl_aloadn gL391_0) ?_
    refine jx_ld (pc' := 26) (l' := L391) (st' := [.int (i32 (lv)), .ref 66]) rfl (jl_iloadn gL391_1) ?_
    have b392 : (-1 : Int) ≤ A 5 (ln2_366).toNat ∧ A 5 (ln2_366).toNat ≤ 15 := hW.2 5 _
    refine jx_vr (pc' := 29) (as := [.int (i32 (lv))]) (st := []) rfl rfl rfl rfl ⟨rfl, rfl, Nat.le_of_ble_eq_true rfl⟩ rfl rfl (c_isBelow (dd := d) (hd := by omega) (hW := hW368) (lv := lv) (ln := ln2_366) (e_ln := show G364 9 = ln2_366 from (e370)) (li := li) (e_li := show G364 3 = li from ((hF369.1 3 rfl).trans ((hF350.1 3 rfl).trans ((hF332.1 3 rfl).trans (e_li))))) (fk := fk2_367) (e_fk := show G364 16 = fk2_367 from (e371)) (ll := A 5 (ln2_366).toNat) (e_ll := show A365 5 (ln2_366).toNat = A 5 (ln2_366).toNat from (congrFun ((hF369.2 5 rfl).trans ((hF350.2 5 rfl).trans (hF332.2 5 rfl))) _))  (h_lv := ⟨(Int.le_trans (by decide : (-2147483648 : Int) ≤ -2147483648) h_lv.1), (Int.le_trans h_lv.2 (by decide : (2147483647 : Int) ≤ 2147483647))⟩)  (p_0 := by omega)) (fun o V' hq => ?_)
    obtain ⟨G393, A394, r395, fk2_396, rfl, rfl, hW397, hF398, b399, e400, q401⟩ := hq
    have hF402 := Fr_tr hF373 hF398 (Fr_sub (by decide)) (Fr_sub (by decide))
    have hP403 := Pf_f hP374 hF398 (by decide)
    have hS404 := Fx_f hS375 hF398 (by decide)
    have hV405 := Fx_f hV376 hF398 (by decide)
    have sf406 : ND A394 (nd) (32) (0) (0) (0) (0) (0) (0) := ND_ag (by omega) (Ag_fr hF398 (by decide)) sf377
    have ec407 : ecn A394 (G393 31) = ec2_330 := (ecn_f (hF398.2 15 rfl) (hF398.1 31 rfl)).trans ec378
    have bfk2_396 : (0 : Int) ≤ fk2_396 ∧ fk2_396 ≤ 6 := e400 ▸ hW397.1 16
    refine .inr ⟨_, rfl, ?_⟩
    rcases q401 with ⟨rfl, a408, a409, a410, a411⟩ | ⟨rfl, a412⟩ | ⟨rfl, a413, a414, a415⟩
    · have _q : True := trivial
      exfalso
      omega
    · have _q : True := trivial
      refine jx_if_eq (pc' := 32) (tg := 130) rfl rfl rfl (by decide) (by decide) (fun h416 => ?_) (fun h416 => ?_)
      · have _q := h416
        refine jx_ld (pc' := 131) (l' := L391) (st' := [.ref 66]) rfl (jl_aloadn gL391_0) ?_
        refine jx_vr (pc' := 134) (as := []) (st := []) rfl rfl rfl rfl ⟨rfl, rfl, Nat.le_of_ble_eq_true rfl⟩ rfl rfl (c_bad (dd := d) (hd := by omega) (hW := hW397)  (fk := fk2_396) (e_fk := show G393 16 = fk2_396 from (e400))    ) (fun o V' hq => ?_)
        obtain ⟨r417, rfl, rfl, b418, q419⟩ := hq
        refine .inr ⟨_, rfl, ?_⟩
        rcases q419 with ⟨rfl, a420⟩ | ⟨rfl, a421⟩
        · have _q : True := trivial
          refine jx_if_ne (pc' := 137) (tg := 150) rfl rfl rfl (by decide) (by decide) (fun h422 => ?_) (fun h422 => ?_)
          · have _q := h422
            refine jx_ld (pc' := 151) (l' := L391) (st' := [.ref 66]) rfl (jl_aloadn gL391_0) ?_
            refine jr_get (pc' := 154) (i := 35) (v := .ref 85) rfl rfl (by decide) rfl rfl ?_
            refine jx_ld (pc' := 155) (l' := L391) (st' := [.int (i32 (nd)), .ref 85]) rfl (jl_iloadn gL391_2) ?_
            refine jx_ld (pc' := 157) (l' := L391) (st' := [.int (i32 (0)), .int (i32 (nd)), .ref 85]) rfl (jl_iload gL391_4) ?_
            refine jr_st (pc' := 158) (i := 18) (m := 7000) (z := nd) (y := 0) rfl (by decide) rfl (by decide) (by omega) (by omega) rfl ?_
            have hW424 : Wk G393 (uA A394 18 (nd).toNat (0)) := Wk_a hW397 (show (-2147483648 : Int) ≤ 0 by omega) (show 0 ≤ (2147483647 : Int) by omega)
            have hF425 := Fr_a (z := 0) (k := 18) (n := (nd).toNat) hF402 (by decide)
            obtain ⟨A423, eA423⟩ : ∃ q, q = uA A394 18 (nd).toNat (0) := ⟨_, rfl⟩
            rw [← eA423]
            rw [← eA423] at hW424 hF425
            have q426 : A423 18 (nd).toNat = 0 := by rw [eA423]; exact uA_eq
            have hP427 : Pf nd A A423 := eA423 ▸ Pf_a hP403 (z := nd) (by omega) (by omega)
            have hS428 : Fx sr (sy) A A423 := eA423 ▸ Fx_n hS404 rfl
            have hV429 : Fx [14] (vi) A A423 := eA423 ▸ Fx_n hV405 rfl
            have sf430 : ND A423 (nd) (32) (0) (0) (0) (0) (0) (0) := ND_b eA423 sf406
            have ec431 : ecn A423 (G393 31) = ec2_330 := (ecn_e ((congrFun eA423 15).trans (uA_ne (by decide)))).trans ec407
            refine jx_ld (pc' := 159) (l' := L391) (st' := [.int (i32 (nd))]) rfl (jl_iloadn gL391_2) ?_
            refine jx_rt (v := some (.int (i32 (nd)))) rfl rfl rfl rfl rfl rfl ?_
            exact ⟨_, _, _, ln2_366, at2_347, fk2_396, nd2_329, sy, na, vi, A 3 (ln2_366).toNat, ec2_330, rfl, rfl, hW424, hF425, hP427, hS428, hV429, by omega, ((hF398.1 9 rfl).trans (e370)), ((hF398.1 10 rfl).trans ((hF369.1 10 rfl).trans (e351))), (e400), ((hF398.1 31 rfl).trans ((hF369.1 31 rfl).trans ((hF350.1 31 rfl).trans (e334)))), ((hF398.1 19 rfl).trans ((hF369.1 19 rfl).trans ((hF350.1 19 rfl).trans ((hF332.1 19 rfl).trans (e_sy))))), ((hF398.1 28 rfl).trans ((hF369.1 28 rfl).trans ((hF350.1 28 rfl).trans ((hF332.1 28 rfl).trans (e_na))))), ((hF398.1 29 rfl).trans ((hF369.1 29 rfl).trans ((hF350.1 29 rfl).trans ((hF332.1 29 rfl).trans (e_vi))))), (congrFun (((congrFun eA423 3).trans (uA_ne (by decide))).trans ((hF398.2 3 rfl).trans ((hF369.2 3 rfl).trans ((hF350.2 3 rfl).trans (hF332.2 3 rfl))))) _), ec431, by omega, by omega, by omega, by omega, by omega, by omega, by omega, by omega, by omega, by omega, by first | exact Or.inl (⟨by omega, by omega⟩)⟩
          · have _q := h422
            exact absurd h422 (by omega)
        · have _q : True := trivial
          exfalso
          omega
      · have _q := h416
        exact absurd h416 (by omega)
    · have _q : True := trivial
      exfalso
      omega
set_option maxRecDepth 20000 in
set_option maxHeartbeats 4000000 in
theorem c_readStatement_w {X : jX} {k : Nat} (hP : RPw X k) {dd : Nat} {Vs : Nat → Prop} {sb pb : Int} (hvb : VB Vs sb) {c0 c1 : jC} {G : Nat → Int} {A : Nat → Nat → Int} {T : jH} {lv : Int} {ln li at0 fk nd sy na vi le op0 tk0 ec : Int} (hd : 8 * k + 83 ≤ dd) (hW : Wk G A) (e_ln : G 9 = ln) (e_li : G 3 = li) (e_at0 : G 10 = at0) (e_fk : G 16 = fk) (e_nd : G 31 = nd) (e_sy : G 19 = sy) (e_na : G 28 = na) (e_vi : G 29 = vi) (e_le : A 4 (ln).toNat = le) (e_op0 : G 15 = op0) (e_tk0 : G 11 = tk0) (e_ec : ecn A (G 31) = ec) (i_LT : LT G A) (i_SV : SV Vs sb G A) (i_PQ : PQ Vs sb pb G A) (h_lv : (-2147483648 : Int) ≤ lv ∧ lv ≤ 2147483647) (p_0 : 0 ≤ lv ∧ lv ≤ 15) (p_1 : 18 - lv ≤ ((k + 1 : Nat) : Int)) (p_2 : fk = 0) (p_3 : ln < li) (p_4 : at0 ≤ le) (p_5 : op0 = 0) (p_6 : nd ≤ 2 * at0 - tz tk0 + 30) (p_7 : sy ≤ na + 2) (p_8 : vi ≤ sy) (p_9 : sb = sy) : wk X dd 295 [.ref 66, .int (i32 lv)] (rV c0 c1 G A T) (fun o V' => ∃ (G' : Nat → Int) (A' : Nat → Nat → Int) (r : Int) (ln2 : Int) (at2 : Int) (fk2 : Int) (nd2 : Int) (sy2 : Int) (na2 : Int) (vi2 : Int) (lf2 : Int) (ec2 : Int), V' = rV c0 c1 G' A' T ∧ o = .inl (some (.int (i32 r))) ∧ Wk G' A' ∧ Fr [9, 10, 11, 12, 13, 14, 15, 16, 17, 18, 19, 28, 29, 31] [6, 7, 8, 9, 10, 11, 12, 14, 15, 16, 17, 18, 19, 20, 21, 22, 23, 24, 28] G A G' A' ∧ Pf nd A A' ∧ Fx sr (sy) A A' ∧ Fx [14] (vi) A A' ∧ ((-2147483648 : Int) ≤ r ∧ r ≤ 2147483647) ∧ G' 9 = ln2 ∧ G' 10 = at2 ∧ G' 16 = fk2 ∧ G' 31 = nd2 ∧ G' 19 = sy2 ∧ G' 28 = na2 ∧ G' 29 = vi2 ∧ A' 3 (ln2).toNat = lf2 ∧ ecn A' (G' 31) = ec2 ∧ (at0 ≤ at2) ∧ (nd ≤ nd2) ∧ (sy ≤ sy2) ∧ (sy2 ≤ na2 + 2) ∧ (vi ≤ vi2) ∧ (vi2 ≤ vi + 1) ∧ (0 ≤ r) ∧ (r ≤ 6999) ∧ (ln ≤ ln2) ∧ (ln2 ≤ li) ∧ (((1 ≤ fk2) ∧ (nd2 - nd ≤ 2 * at2 - (2 * at0 - tz tk0) + 14)) ∨ ((fk2 = 0) ∧ (vi2 = vi) ∧ (ln < ln2) ∧ (nd2 - nd ≤ 2 * at2 - (2 * at0 - tz tk0)) ∧ (at2 < lf2 ∨ li ≤ ln2) ∧ (nd ≤ r) ∧ (r < nd2) ∧ (wSt A' (sy2) pb (wP A' (sy2) pb (k)) (Vs) (r) (nd) (nd2) (sy) (sy2)) ∧ (NX A' (r)) ∧ (nd2 - nd + 5 * (ec2 - ec) ≤ 2 * at2 - (2 * at0 - tz tk0)) ∧ (nd + 5 * ec ≤ r)))) := by
  obtain ⟨d, rfl⟩ : ∃ d, dd = d + 1 := ⟨dd - 1, by omega⟩
  refine wk_of (e := jm295) rfl (Nat.le_of_ble_eq_true rfl) ?_
  show wj X d jm295 (0, [(0, .ref 66), (1, .int (i32 (lv)))], [], rV c0 c1 G A T) _
  have hF0 : Fr [9, 10, 11, 12, 13, 14, 15, 16, 17, 18, 19, 28, 29, 31] [6, 7, 8, 9, 10, 11, 12, 14, 15, 16, 17, 18, 19, 20, 21, 22, 23, 24, 28] G A G A := Fr_rf
  have hP0 : Pf nd A A := Pf_rf
  have hS0 : Fx sr (sy) A A := Fx_rf
  have hV0 : Fx [14] (vi) A A := Fx_rf
  have b_ln : (0 : Int) ≤ ln ∧ ln ≤ 3000 := e_ln ▸ hW.1 9
  have b_li : (0 : Int) ≤ li ∧ li ≤ 3000 := e_li ▸ hW.1 3
  have b_at0 : (0 : Int) ≤ at0 ∧ at0 ≤ 3002 := e_at0 ▸ hW.1 10
  have b_fk : (0 : Int) ≤ fk ∧ fk ≤ 6 := e_fk ▸ hW.1 16
  have b_nd : (0 : Int) ≤ nd ∧ nd ≤ 6999 := e_nd ▸ hW.1 31
  have b_sy : (0 : Int) ≤ sy ∧ sy ≤ 202 := e_sy ▸ hW.1 19
  have b_na : (0 : Int) ≤ na ∧ na ≤ 200 := e_na ▸ hW.1 28
  have b_vi : (0 : Int) ≤ vi ∧ vi ≤ 202 := e_vi ▸ hW.1 29
  have b_le : (0 : Int) ≤ le ∧ le ≤ 3000 := e_le ▸ hW.2 4 _
  have b_op0 : (-2147483648 : Int) ≤ op0 ∧ op0 ≤ 2147483647 := e_op0 ▸ hW.1 15
  have z_tk0 := tz_f tk0
  have b_tk0 : (0 : Int) ≤ tk0 ∧ tk0 ≤ 5 := e_tk0 ▸ hW.1 11
  refine jx_ar (pc' := 1) (st' := [.int (i32 (0))]) rfl rfl rfl rfl ?_
  refine jx_ld (pc' := 2) (l' := jSto1 [(0, .ref 66), (1, .int (i32 (lv)))] 2 (.int (i32 (0)))) (st' := []) rfl rfl ?_
  obtain ⟨L1, eL1⟩ : ∃ q, q = jSto1 [(0, .ref 66), (1, .int (i32 (lv)))] 2 (.int (i32 (0))) := ⟨_, rfl⟩
  rw [← eL1]
  have gL1_0 : jGet L1 0 = some (.ref 66) := eL1 ▸ jg_ne (by decide) (rfl : jGet [(0, .ref 66), (1, .int (i32 (lv)))] 0 = some (.ref 66)) rfl
  have gL1_1 : jGet L1 1 = some (.int (i32 (lv))) := eL1 ▸ jg_ne (by decide) (rfl : jGet [(0, .ref 66), (1, .int (i32 (lv)))] 1 = some (.int (i32 (lv)))) rfl
  have gL1_2 : jGet L1 2 = some (.int (i32 (0))) := eL1 ▸ jg_eq
  refine jx_ld (pc' := 3) (l' := L1) (st' := [.ref 66]) rfl (jl_aloadn gL1_0) ?_
  have z2 := tz_f (tk0)
  refine jr_get (pc' := 6) (i := 11) (v := .int (i32 (tk0))) rfl rfl (by decide) (rFv_eq (by decide) (show G 11 = tk0 from (e_tk0))) rfl ?_
  refine jx_ar (pc' := 7) (st' := [.int (i32 (1)), .int (i32 (tk0))]) rfl rfl rfl rfl ?_
  refine jx_icmp_ne (pc' := 10) (tg := 15) rfl rfl rfl (Int.le_trans (by decide : (-2147483648 : Int) ≤ 0) b_tk0.1) (Int.le_trans b_tk0.2 (by decide : (5 : Int) ≤ 2147483647)) (by decide) (by decide) (fun h3 => ?_) (fun h3 => ?_)
  · have _q := h3
    refine jx_ld (pc' := 16) (l' := L1) (st' := [.ref 66]) rfl (jl_aloadn gL1_0) ?_
    have z4 := tz_f (tk0)
    refine jr_get (pc' := 19) (i := 11) (v := .int (i32 (tk0))) rfl rfl (by decide) (rFv_eq (by decide) (show G 11 = tk0 from (e_tk0))) rfl ?_
    refine jx_ar (pc' := 20) (st' := [.int (i32 (2)), .int (i32 (tk0))]) rfl rfl rfl rfl ?_
    refine jx_icmp_eq (pc' := 23) (tg := 34) rfl rfl rfl (Int.le_trans (by decide : (-2147483648 : Int) ≤ 0) b_tk0.1) (Int.le_trans b_tk0.2 (by decide : (5 : Int) ≤ 2147483647)) (by decide) (by decide) (fun h5 => ?_) (fun h5 => ?_)
    · have _q := h5
      refine jx_ld (pc' := 35) (l' := L1) (st' := [.ref 66]) rfl (jl_aloadn gL1_0) ?_
      have b6 : (-2147483648 : Int) ≤ G 13 ∧ G 13 ≤ 2147483647 := hW.1 13
      refine jr_get (pc' := 38) (i := 13) (v := .int (i32 (G 13))) rfl rfl (by decide) rfl rfl ?_
      refine jx_ld (pc' := 39) (l' := jSto1 L1 3 (.int (i32 (G 13)))) (st' := []) rfl rfl ?_
      obtain ⟨L7, eL7⟩ : ∃ q, q = jSto1 L1 3 (.int (i32 (G 13))) := ⟨_, rfl⟩
      rw [← eL7]
      have gL7_0 : jGet L7 0 = some (.ref 66) := eL7 ▸ jg_ne (by decide) gL1_0 rfl
      have gL7_1 : jGet L7 1 = some (.int (i32 (lv))) := eL7 ▸ jg_ne (by decide) gL1_1 rfl
      have gL7_2 : jGet L7 2 = some (.int (i32 (0))) := eL7 ▸ jg_ne (by decide) gL1_2 rfl
      have gL7_3 : jGet L7 3 = some (.int (i32 (G 13))) := eL7 ▸ jg_eq
      refine jx_ld (pc' := 40) (l' := L7) (st' := [.int (i32 (G 13))]) rfl (jl_iloadn gL7_3) ?_
      rcases (by omega : G 13 = 1 ∨ G 13 = 2 ∨ G 13 = 3 ∨ G 13 = 4 ∨ G 13 = 5 ∨ G 13 = 6 ∨ G 13 = 7 ∨ G 13 = 8 ∨ (G 13 < 1 ∨ 8 < G 13)) with h8 | h8 | h8 | h8 | h8 | h8 | h8 | h8 | h8
      · refine jx_swe (z := 1) (tg := 120) h8 rfl rfl rfl rfl ?_
        refine jx_ld (pc' := 121) (l' := L7) (st' := [.ref 66]) rfl (jl_aloadn gL7_0) ?_
        refine jx_ld (pc' := 122) (l' := L7) (st' := [.int (i32 (lv)), .ref 66]) rfl (jl_iloadn gL7_1) ?_
        refine jx_vr (pc' := 125) (as := [.int (i32 (lv))]) (st := []) rfl rfl rfl rfl ⟨rfl, rfl, Nat.le_of_ble_eq_true rfl⟩ rfl rfl (c_readSeq_w (dd := d) (hP := hP) (hd := by omega) (hW := hW) (lv := lv) (ln := ln) (e_ln := show G 9 = ln from (e_ln)) (li := li) (e_li := show G 3 = li from (e_li)) (at0 := at0) (e_at0 := show G 10 = at0 from (e_at0)) (fk := fk) (e_fk := show G 16 = fk from (e_fk)) (nd := nd) (e_nd := show G 31 = nd from (e_nd)) (sy := sy) (e_sy := show G 19 = sy from (e_sy)) (na := na) (e_na := show G 28 = na from (e_na)) (vi := vi) (e_vi := show G 29 = vi from (e_vi)) (le := le) (e_le := show A 4 (ln).toNat = le from (e_le)) (op0 := op0) (e_op0 := show G 15 = op0 from (e_op0)) (tk0 := tk0) (e_tk0 := show G 11 = tk0 from (e_tk0)) (ec := ec) (e_ec := show ecn A (G 31) = ec from e_ec) (i_LT := (LT_ext (rfl) (rfl) (rfl) i_LT)) (i_SV := (SV_fx i_SV e_vi (show G 29 = vi from (e_vi)) (by omega) hV0)) (i_PQ := (PQ_fx i_PQ hS0 (by omega) (hF0.2 29 rfl) (hF0.2 30 rfl))) (hvb := hvb) (h_lv := ⟨(Int.le_trans (by decide : (-2147483648 : Int) ≤ -2147483648) h_lv.1), (Int.le_trans h_lv.2 (by decide : (2147483647 : Int) ≤ 2147483647))⟩)  (p_0 := by omega) (p_1 := by omega) (p_2 := by omega) (p_3 := by omega) (p_4 := by omega) (p_5 := by omega) (p_6 := by omega) (p_7 := by omega) (p_8 := by omega) (p_9 := by omega) (p_10 := by omega)) (fun o V' hq => ?_)
        obtain ⟨G9, A10, r11, ln2_12, at2_13, fk2_14, nd2_15, sy2_16, na2_17, vi2_18, lf2_19, ec2_20, rfl, rfl, hW21, hF22, hQ23, hQ24, hQ25, b26, e27, e28, e29, e30, e31, e32, e33, e34, e35, p36, p37, p38, p39, p40, p41, p42, p43, p44, p45, q46⟩ := hq
        have hF47 := Fr_tr hF0 hF22 (Fr_sub (by decide)) (Fr_sub (by decide))
        have hP48 := Pf_tr hP0 hQ23 (by omega)
        have hS49 := Fx_tr hS0 hQ24 (by omega)
        have hV50 := Fx_tr hV0 hQ25 (by omega)
        have bln2_12 : (0 : Int) ≤ ln2_12 ∧ ln2_12 ≤ 3000 := e27 ▸ hW21.1 9
        have bat2_13 : (0 : Int) ≤ at2_13 ∧ at2_13 ≤ 3002 := e28 ▸ hW21.1 10
        have bfk2_14 : (0 : Int) ≤ fk2_14 ∧ fk2_14 ≤ 6 := e29 ▸ hW21.1 16
        have bnd2_15 : (0 : Int) ≤ nd2_15 ∧ nd2_15 ≤ 6999 := e30 ▸ hW21.1 31
        have bsy2_16 : (0 : Int) ≤ sy2_16 ∧ sy2_16 ≤ 202 := e31 ▸ hW21.1 19
        have bna2_17 : (0 : Int) ≤ na2_17 ∧ na2_17 ≤ 200 := e32 ▸ hW21.1 28
        have bvi2_18 : (0 : Int) ≤ vi2_18 ∧ vi2_18 ≤ 202 := e33 ▸ hW21.1 29
        have blf2_19 : (0 : Int) ≤ lf2_19 ∧ lf2_19 ≤ 3000 := e34 ▸ hW21.2 3 _
        refine .inr ⟨_, rfl, ?_⟩
        rcases q46 with ⟨a51, a52⟩ | ⟨a53, a54, a55, a56, a57, a58, a59, a60, a61, a62, a63⟩
        · have _q : True := trivial
          refine jx_rt (v := some (.int (i32 (r11)))) rfl rfl rfl rfl rfl rfl ?_
          exact ⟨_, _, _, ln2_12, at2_13, fk2_14, nd2_15, sy2_16, na2_17, vi2_18, lf2_19, ec2_20, rfl, rfl, hW21, hF47, hP48, hS49, hV50, by omega, (e27), (e28), (e29), (e30), (e31), (e32), (e33), (e34), e35, by omega, by omega, by omega, by omega, by omega, by omega, by omega, by omega, by omega, by omega, by first | exact Or.inl (⟨by omega, by omega⟩)⟩
        · have _q : True := trivial
          refine jx_rt (v := some (.int (i32 (r11)))) rfl rfl rfl rfl rfl rfl ?_
          exact ⟨_, _, _, ln2_12, at2_13, fk2_14, nd2_15, sy2_16, na2_17, vi2_18, lf2_19, ec2_20, rfl, rfl, hW21, hF47, hP48, hS49, hV50, by omega, (e27), (e28), (e29), (e30), (e31), (e32), (e33), (e34), e35, by omega, by omega, by omega, by omega, by omega, by omega, by omega, by omega, by omega, by omega, by first | exact Or.inr ((⟨by omega, by omega, by omega, by omega, by omega, by omega, by omega, a60, a61, by omega, by omega⟩))⟩
      · refine jx_swe (z := 2) (tg := 186) h8 rfl rfl rfl rfl ?_
        refine jx_ld (pc' := 187) (l' := L7) (st' := [.ref 66]) rfl (jl_aloadn gL7_0) ?_
        refine jx_ld (pc' := 188) (l' := L7) (st' := [.int (i32 (lv)), .ref 66]) rfl (jl_iloadn gL7_1) ?_
        refine jx_vr (pc' := 191) (as := [.int (i32 (lv))]) (st := []) rfl rfl rfl rfl ⟨rfl, rfl, Nat.le_of_ble_eq_true rfl⟩ rfl rfl (c_readPar_w (dd := d) (hP := hP) (hd := by omega) (hW := hW) (lv := lv) (ln := ln) (e_ln := show G 9 = ln from (e_ln)) (li := li) (e_li := show G 3 = li from (e_li)) (at0 := at0) (e_at0 := show G 10 = at0 from (e_at0)) (fk := fk) (e_fk := show G 16 = fk from (e_fk)) (nd := nd) (e_nd := show G 31 = nd from (e_nd)) (sy := sy) (e_sy := show G 19 = sy from (e_sy)) (na := na) (e_na := show G 28 = na from (e_na)) (vi := vi) (e_vi := show G 29 = vi from (e_vi)) (le := le) (e_le := show A 4 (ln).toNat = le from (e_le)) (op0 := op0) (e_op0 := show G 15 = op0 from (e_op0)) (tk0 := tk0) (e_tk0 := show G 11 = tk0 from (e_tk0)) (ec := ec) (e_ec := show ecn A (G 31) = ec from e_ec) (i_LT := (LT_ext (rfl) (rfl) (rfl) i_LT)) (i_SV := (SV_fx i_SV e_vi (show G 29 = vi from (e_vi)) (by omega) hV0)) (i_PQ := (PQ_fx i_PQ hS0 (by omega) (hF0.2 29 rfl) (hF0.2 30 rfl))) (hvb := hvb) (h_lv := ⟨(Int.le_trans (by decide : (-2147483648 : Int) ≤ -2147483648) h_lv.1), (Int.le_trans h_lv.2 (by decide : (2147483647 : Int) ≤ 2147483647))⟩)  (p_0 := by omega) (p_1 := by omega) (p_2 := by omega) (p_3 := by omega) (p_4 := by omega) (p_5 := by omega) (p_6 := by omega) (p_7 := by omega) (p_8 := by omega) (p_9 := by omega) (p_10 := by omega)) (fun o V' hq => ?_)
        obtain ⟨G64, A65, r66, ln2_67, at2_68, fk2_69, nd2_70, sy2_71, na2_72, vi2_73, lf2_74, ec2_75, rfl, rfl, hW76, hF77, hQ78, hQ79, hQ80, b81, e82, e83, e84, e85, e86, e87, e88, e89, e90, p91, p92, p93, p94, p95, p96, p97, p98, p99, p100, q101⟩ := hq
        have hF102 := Fr_tr hF0 hF77 (Fr_sub (by decide)) (Fr_sub (by decide))
        have hP103 := Pf_tr hP0 hQ78 (by omega)
        have hS104 := Fx_tr hS0 hQ79 (by omega)
        have hV105 := Fx_tr hV0 hQ80 (by omega)
        have bln2_67 : (0 : Int) ≤ ln2_67 ∧ ln2_67 ≤ 3000 := e82 ▸ hW76.1 9
        have bat2_68 : (0 : Int) ≤ at2_68 ∧ at2_68 ≤ 3002 := e83 ▸ hW76.1 10
        have bfk2_69 : (0 : Int) ≤ fk2_69 ∧ fk2_69 ≤ 6 := e84 ▸ hW76.1 16
        have bnd2_70 : (0 : Int) ≤ nd2_70 ∧ nd2_70 ≤ 6999 := e85 ▸ hW76.1 31
        have bsy2_71 : (0 : Int) ≤ sy2_71 ∧ sy2_71 ≤ 202 := e86 ▸ hW76.1 19
        have bna2_72 : (0 : Int) ≤ na2_72 ∧ na2_72 ≤ 200 := e87 ▸ hW76.1 28
        have bvi2_73 : (0 : Int) ≤ vi2_73 ∧ vi2_73 ≤ 202 := e88 ▸ hW76.1 29
        have blf2_74 : (0 : Int) ≤ lf2_74 ∧ lf2_74 ≤ 3000 := e89 ▸ hW76.2 3 _
        refine .inr ⟨_, rfl, ?_⟩
        rcases q101 with ⟨a106, a107⟩ | ⟨a108, a109, a110, a111, a112, a113, a114, a115, a116, a117, a118⟩
        · have _q : True := trivial
          refine jx_rt (v := some (.int (i32 (r66)))) rfl rfl rfl rfl rfl rfl ?_
          exact ⟨_, _, _, ln2_67, at2_68, fk2_69, nd2_70, sy2_71, na2_72, vi2_73, lf2_74, ec2_75, rfl, rfl, hW76, hF102, hP103, hS104, hV105, by omega, (e82), (e83), (e84), (e85), (e86), (e87), (e88), (e89), e90, by omega, by omega, by omega, by omega, by omega, by omega, by omega, by omega, by omega, by omega, by first | exact Or.inl (⟨by omega, by omega⟩)⟩
        · have _q : True := trivial
          refine jx_rt (v := some (.int (i32 (r66)))) rfl rfl rfl rfl rfl rfl ?_
          exact ⟨_, _, _, ln2_67, at2_68, fk2_69, nd2_70, sy2_71, na2_72, vi2_73, lf2_74, ec2_75, rfl, rfl, hW76, hF102, hP103, hS104, hV105, by omega, (e82), (e83), (e84), (e85), (e86), (e87), (e88), (e89), e90, by omega, by omega, by omega, by omega, by omega, by omega, by omega, by omega, by omega, by omega, by first | exact Or.inr ((⟨by omega, by omega, by omega, by omega, by omega, by omega, by omega, a115, a116, by omega, by omega⟩))⟩
      · refine jx_swe (z := 3) (tg := 126) h8 rfl rfl rfl rfl ?_
        refine jx_ld (pc' := 127) (l' := L7) (st' := [.ref 66]) rfl (jl_aloadn gL7_0) ?_
        refine jx_vr (pc' := 130) (as := []) (st := []) rfl rfl rfl rfl ⟨rfl, rfl, Nat.le_of_ble_eq_true rfl⟩ rfl rfl (c_next (dd := d) (hd := by omega) (hW := hW)  (ln := ln) (e_ln := show G 9 = ln from (e_ln)) (le := le) (e_le := show A 4 (ln).toNat = le from (e_le)) (at0 := at0) (e_at0 := show G 10 = at0 from (e_at0))    (p_0 := by omega)) (fun o V' hq => ?_)
        obtain ⟨G119, A120, at2_121, tk2_122, rfl, rfl, hW123, hF124, e125, e126, p127, p128, p129, -⟩ := hq
        have hF131 := Fr_tr hF0 hF124 (Fr_sub (by decide)) (Fr_sub (by decide))
        have hP132 := Pf_f hP0 hF124 (by decide)
        have hS133 := Fx_f hS0 hF124 (by decide)
        have hV134 := Fx_f hV0 hF124 (by decide)
        have ec135 : ecn A120 (G119 31) = ec := (ecn_f (hF124.2 15 rfl) (hF124.1 31 rfl)).trans e_ec
        have bat2_121 : (0 : Int) ≤ at2_121 ∧ at2_121 ≤ 3002 := e125 ▸ hW123.1 10
        have ztk2_122 := tz_b tk2_122
        have btk2_122 : (0 : Int) ≤ tk2_122 ∧ tk2_122 ≤ 5 := e126 ▸ hW123.1 11
        refine .inl ⟨rfl, ?_⟩
        have pz136 : at0 + tz tk2_122 ≤ at2_121 := by omega
        refine jx_ld (pc' := 131) (l' := L7) (st' := [.ref 66]) rfl (jl_aloadn gL7_0) ?_
        refine jx_vr (pc' := 134) (as := []) (st := []) rfl rfl rfl rfl ⟨rfl, rfl, Nat.le_of_ble_eq_true rfl⟩ rfl rfl (c_bad (dd := d) (hd := by omega) (hW := hW123)  (fk := fk) (e_fk := show G119 16 = fk from ((hF124.1 16 rfl).trans (e_fk)))    ) (fun o V' hq => ?_)
        obtain ⟨r137, rfl, rfl, b138, q139⟩ := hq
        refine .inr ⟨_, rfl, ?_⟩
        rcases q139 with ⟨rfl, a140⟩ | ⟨rfl, a141⟩
        · have _q : True := trivial
          exfalso
          omega
        · have _q : True := trivial
          refine jx_if_ne (pc' := 137) (tg := 156) rfl rfl rfl (by decide) (by decide) (fun h142 => ?_) (fun h142 => ?_)
          · have _q := h142
            exact absurd h142 (by omega)
          · have _q := h142
            refine jx_ld (pc' := 138) (l' := L7) (st' := [.ref 66]) rfl (jl_aloadn gL7_0) ?_
            refine jx_ar (pc' := 139) (st' := [.int (i32 (2)), .ref 66]) rfl rfl rfl rfl ?_
            have b143 : (-2147483648 : Int) ≤ G119 13 ∧ G119 13 ≤ 2147483647 := hW123.1 13
            refine jx_vr (pc' := 142) (as := [.int (i32 (2))]) (st := []) rfl rfl rfl rfl ⟨rfl, rfl, Nat.le_of_ble_eq_true rfl⟩ rfl rfl (c_isKey (dd := d) (hd := by omega) (hW := hW123) (k := 2) (tk := tk2_122) (e_tk := show G119 11 = tk2_122 from (e126)) (tn := G119 13) (e_tn := show G119 13 = G119 13 from rfl)  (h_k := ⟨(by decide), (by decide)⟩)  ) (fun o V' hq => ?_)
            obtain ⟨r144, rfl, rfl, b145, q146⟩ := hq
            refine .inr ⟨_, rfl, ?_⟩
            rcases q146 with ⟨rfl, a147, a148, a149⟩ | rfl
            · have _q : True := trivial
              refine jx_if_ne (pc' := 145) (tg := 156) rfl rfl rfl (by decide) (by decide) (fun h150 => ?_) (fun h150 => ?_)
              · have _q := h150
                refine jx_ld (pc' := 157) (l' := L7) (st' := [.ref 66]) rfl (jl_aloadn gL7_0) ?_
                refine jx_ar (pc' := 159) (st' := [.int (i32 (28)), .ref 66]) rfl rfl rfl rfl ?_
                refine jx_ar (pc' := 160) (st' := [.int (i32 (1)), .int (i32 (28)), .ref 66]) rfl rfl rfl rfl ?_
                refine jx_ar (pc' := 161) (st' := [.int (i32 (0)), .int (i32 (1)), .int (i32 (28)), .ref 66]) rfl rfl rfl rfl ?_
                refine jx_ar (pc' := 162) (st' := [.int (i32 (0)), .int (i32 (0)), .int (i32 (1)), .int (i32 (28)), .ref 66]) rfl rfl rfl rfl ?_
                refine jx_ar (pc' := 163) (st' := [.int (i32 (0)), .int (i32 (0)), .int (i32 (0)), .int (i32 (1)), .int (i32 (28)), .ref 66]) rfl rfl rfl rfl ?_
                refine jx_vr (pc' := 166) (as := [.int (i32 (28)), .int (i32 (1)), .int (i32 (0)), .int (i32 (0)), .int (i32 (0))]) (st := []) rfl rfl rfl rfl ⟨rfl, rfl, Nat.le_of_ble_eq_true rfl⟩ rfl rfl (c_node_o (dd := d) (hd := by omega) (hW := hW123) (kind := 28) (a := 1) (b := 0) (c := 0) (e := 0) (nd := nd) (e_nd := show G119 31 = nd from ((hF124.1 31 rfl).trans (e_nd))) (ec := ec) (e_ec := show ecn A120 (G119 31) = ec from ec135)  (h_kind := ⟨(by decide), (by decide)⟩) (h_a := ⟨(by decide), (by decide)⟩) (h_b := ⟨(by decide), (by decide)⟩) (h_c := ⟨(by decide), (by decide)⟩) (h_e := ⟨(by decide), (by decide)⟩)  (p_0 := by omega) (p_1 := by omega) (p_2 := by omega)) (fun o V' hq => ?_)
                obtain ⟨G151, A152, nd2_153, ec2_154, rfl, rfl, hW155, hF156, hQ157, e158, e159, p160, p161, p162, -⟩ := hq
                have hF164 := Fr_tr hF131 hF156 (Fr_sub (by decide)) (Fr_sub (by decide))
                have hP165 := Pf_tr hP132 hQ157 (by omega)
                have hS166 := Fx_f hS133 hF156 (by decide)
                have hV167 := Fx_f hV134 hF156 (by decide)
                have bnd2_153 : (0 : Int) ≤ nd2_153 ∧ nd2_153 ≤ 6999 := e158 ▸ hW155.1 31
                refine .inr ⟨_, rfl, ?_⟩
                refine jx_ld (pc' := 167) (l' := jSto1 L7 2 (.int (i32 (nd)))) (st' := []) rfl rfl ?_
                obtain ⟨L168, eL168⟩ : ∃ q, q = jSto1 L7 2 (.int (i32 (nd))) := ⟨_, rfl⟩
                rw [← eL168]
                have gL168_0 : jGet L168 0 = some (.ref 66) := eL168 ▸ jg_ne (by decide) gL7_0 rfl
                have gL168_1 : jGet L168 1 = some (.int (i32 (lv))) := eL168 ▸ jg_ne (by decide) gL7_1 rfl
                have gL168_3 : jGet L168 3 = some (.int (i32 (G 13))) := eL168 ▸ jg_ne (by decide) gL7_3 rfl
                have gL168_2 : jGet L168 2 = some (.int (i32 (nd))) := eL168 ▸ jg_eq
                refine jx_ld (pc' := 168) (l' := L168) (st' := [.ref 66]) rfl (jl_aloadn gL168_0) ?_
                refine jx_ar (pc' := 169) (st' := [.int (i32 (1)), .ref 66]) rfl rfl rfl rfl ?_
                refine jx_vr (pc' := 172) (as := [.int (i32 (1))]) (st := []) rfl rfl rfl rfl ⟨rfl, rfl, Nat.le_of_ble_eq_true rfl⟩ rfl rfl (c_need (dd := d) (hd := by omega) (hW := hW155) (g := 1) (ln := ln) (e_ln := show G151 9 = ln from ((hF156.1 9 rfl).trans ((hF124.1 9 rfl).trans (e_ln)))) (le := le) (e_le := show A152 4 (ln).toNat = le from (congrFun ((hF156.2 4 rfl).trans (hF124.2 4 rfl)) _).trans (e_le)) (at0 := at2_121) (e_at0 := show G151 10 = at2_121 from ((hF156.1 10 rfl).trans (e125))) (fk := fk) (e_fk := show G151 16 = fk from ((hF156.1 16 rfl).trans ((hF124.1 16 rfl).trans (e_fk)))) (tk0 := tk2_122) (e_tk0 := show G151 11 = tk2_122 from ((hF156.1 11 rfl).trans (e126)))  (h_g := ⟨(by decide), (by decide)⟩)  (p_0 := by omega)) (fun o V' hq => ?_)
                obtain ⟨G169, A170, at2_171, tk2_172, fk2_173, rfl, rfl, hW174, hF175, e176, e177, e178, p179, p180, q181⟩ := hq
                have hF182 := Fr_tr hF164 hF175 (Fr_sub (by decide)) (Fr_sub (by decide))
                have hP183 := Pf_f hP165 hF175 (by decide)
                have hS184 := Fx_f hS166 hF175 (by decide)
                have hV185 := Fx_f hV167 hF175 (by decide)
                have sf186 : ND A170 (nd) (28) (1) (0) (0) (0) (0) (0) := ND_ag (by omega) (Ag_fr hF175 (by decide)) p162
                have ec187 : ecn A170 (G169 31) = ec2_154 := (ecn_f (hF175.2 15 rfl) (hF175.1 31 rfl)).trans e159
                have bat2_171 : (0 : Int) ≤ at2_171 ∧ at2_171 ≤ 3002 := e176 ▸ hW174.1 10
                have ztk2_172 := tz_b tk2_172
                have btk2_172 : (0 : Int) ≤ tk2_172 ∧ tk2_172 ≤ 5 := e177 ▸ hW174.1 11
                have bfk2_173 : (0 : Int) ≤ fk2_173 ∧ fk2_173 ≤ 6 := e178 ▸ hW174.1 16
                refine .inl ⟨rfl, ?_⟩
                rcases q181 with ⟨a188, a189, a190, a191⟩ | ⟨a192, a193, a194, a195⟩
                · have _q : True := trivial
                  refine jx_ld (pc' := 173) (l' := L168) (st' := [.ref 66]) rfl (jl_aloadn gL168_0) ?_
                  refine jx_vr (pc' := 176) (as := []) (st := []) rfl rfl rfl rfl ⟨rfl, rfl, Nat.le_of_ble_eq_true rfl⟩ rfl rfl (c_endLine (dd := d) (hd := by omega) (hW := hW174)  (ln := ln) (e_ln := show G169 9 = ln from ((hF175.1 9 rfl).trans ((hF156.1 9 rfl).trans ((hF124.1 9 rfl).trans (e_ln))))) (li := li) (e_li := show G169 3 = li from ((hF175.1 3 rfl).trans ((hF156.1 3 rfl).trans ((hF124.1 3 rfl).trans (e_li))))) (fk := fk2_173) (e_fk := show G169 16 = fk2_173 from (e178)) (tk0 := tk2_172) (e_tk0 := show G169 11 = tk2_172 from (e177))    (p_0 := by omega)) (fun o V' hq => ?_)
                  obtain ⟨G196, A197, ln2_198, fk2_199, rfl, rfl, hW200, hF201, e202, e203, q204⟩ := hq
                  have hF205 := Fr_tr hF182 hF201 (Fr_sub (by decide)) (Fr_sub (by decide))
                  have hP206 := Pf_f hP183 hF201 (by decide)
                  have hS207 := Fx_f hS184 hF201 (by decide)
                  have hV208 := Fx_f hV185 hF201 (by decide)
                  have sf209 : ND A197 (nd) (28) (1) (0) (0) (0) (0) (0) := ND_ag (by omega) (Ag_fr hF201 (by decide)) sf186
                  have ec210 : ecn A197 (G196 31) = ec2_154 := (ecn_f (hF201.2 15 rfl) (hF201.1 31 rfl)).trans ec187
                  have bln2_198 : (0 : Int) ≤ ln2_198 ∧ ln2_198 ≤ 3000 := e202 ▸ hW200.1 9
                  have bfk2_199 : (0 : Int) ≤ fk2_199 ∧ fk2_199 ≤ 6 := e203 ▸ hW200.1 16
                  refine .inl ⟨rfl, ?_⟩
                  rcases q204 with ⟨a211, a212, a213, a214, a215⟩ | ⟨a216, a217⟩
                  · have _q : True := trivial
                    exfalso
                    omega
                  · have _q : True := trivial
                    refine jx_ld (pc' := 177) (l' := L168) (st' := [.ref 66]) rfl (jl_aloadn gL168_0) ?_
                    refine jx_ld (pc' := 178) (l' := L168) (st' := [.int (i32 (nd)), .ref 66]) rfl (jl_iloadn gL168_2) ?_
                    refine jx_ld (pc' := 179) (l' := L168) (st' := [.int (i32 (lv)), .int (i32 (nd)), .ref 66]) rfl (jl_iloadn gL168_1) ?_
                    refine jx_ar (pc' := 180) (st' := [.int (i32 (2)), .int (i32 (lv)), .int (i32 (nd)), .ref 66]) rfl rfl rfl rfl ?_
                    refine jx_ar (pc' := 181) (st' := [.int (i32 (2)), .int (i32 (2)), .int (i32 (lv)), .int (i32 (nd)), .ref 66]) rfl rfl rfl rfl ?_
                    refine jx_vr (pc' := 184) (as := [.int (i32 (nd)), .int (i32 (lv)), .int (i32 (2)), .int (i32 (2))]) (st := []) rfl rfl rfl rfl ⟨rfl, rfl, Nat.le_of_ble_eq_true rfl⟩ rfl rfl (c_readChildren_f (dd := d) (zz := nd) (hd := by omega) (hW := hW200) (n := nd) (lv := lv) (least := 2) (mo := 2) (fk := fk2_199) (e_fk := show G196 16 = fk2_199 from (e203))  (h_n := ⟨(Int.le_trans (by decide : (-2147483648 : Int) ≤ 0) b_nd.1), (Int.le_trans b_nd.2 (by decide : (6999 : Int) ≤ 2147483647))⟩) (h_lv := ⟨(Int.le_trans (by decide : (-2147483648 : Int) ≤ -2147483648) h_lv.1), (Int.le_trans h_lv.2 (by decide : (2147483647 : Int) ≤ 2147483647))⟩) (h_least := ⟨(by decide), (by decide)⟩) (h_mo := ⟨(by decide), (by decide)⟩)  (p_0 := by omega) (p_1 := by omega) (p_2 := by omega) (p_3 := by omega)) (fun o V' hq => ?_)
                    obtain ⟨G218, A219, fk2_220, rfl, rfl, hW221, hF222, hQ223, e224, p225, -⟩ := hq
                    have hF227 := Fr_tr hF205 hF222 (Fr_sub (by decide)) (Fr_sub (by decide))
                    have hP228 := Pf_tr hP206 hQ223 (by omega)
                    have hS229 := Fx_f hS207 hF222 (by decide)
                    have hV230 := Fx_f hV208 hF222 (by decide)
                    have ec231 : ecn A219 (G218 31) = ec2_154 := (ecn_f (hF222.2 15 rfl) (hF222.1 31 rfl)).trans ec210
                    have bfk2_220 : (0 : Int) ≤ fk2_220 ∧ fk2_220 ≤ 6 := e224 ▸ hW221.1 16
                    refine .inl ⟨rfl, ?_⟩
                    refine jx_ld (pc' := 185) (l' := L168) (st' := [.int (i32 (nd))]) rfl (jl_iloadn gL168_2) ?_
                    refine jx_rt (v := some (.int (i32 (nd)))) rfl rfl rfl rfl rfl rfl ?_
                    exact ⟨_, _, _, ln2_198, at2_171, fk2_220, nd2_153, sy, na, vi, A 3 (ln2_198).toNat, ec2_154, rfl, rfl, hW221, hF227, hP228, hS229, hV230, by omega, ((hF222.1 9 rfl).trans (e202)), ((hF222.1 10 rfl).trans ((hF201.1 10 rfl).trans (e176))), (e224), ((hF222.1 31 rfl).trans ((hF201.1 31 rfl).trans ((hF175.1 31 rfl).trans (e158)))), ((hF222.1 19 rfl).trans ((hF201.1 19 rfl).trans ((hF175.1 19 rfl).trans ((hF156.1 19 rfl).trans ((hF124.1 19 rfl).trans (e_sy)))))), ((hF222.1 28 rfl).trans ((hF201.1 28 rfl).trans ((hF175.1 28 rfl).trans ((hF156.1 28 rfl).trans ((hF124.1 28 rfl).trans (e_na)))))), ((hF222.1 29 rfl).trans ((hF201.1 29 rfl).trans ((hF175.1 29 rfl).trans ((hF156.1 29 rfl).trans ((hF124.1 29 rfl).trans (e_vi)))))), (congrFun ((hF222.2 3 rfl).trans ((hF201.2 3 rfl).trans ((hF175.2 3 rfl).trans ((hF156.2 3 rfl).trans (hF124.2 3 rfl))))) _), ec231, by omega, by omega, by omega, by omega, by omega, by omega, by omega, by omega, by omega, by omega, by first | exact Or.inl (⟨by omega, by omega⟩)⟩
                · have _q : True := trivial
                  have pz232 : at2_121 + tz tk2_172 ≤ at2_171 := by omega
                  refine jx_ld (pc' := 173) (l' := L168) (st' := [.ref 66]) rfl (jl_aloadn gL168_0) ?_
                  refine jx_vr (pc' := 176) (as := []) (st := []) rfl rfl rfl rfl ⟨rfl, rfl, Nat.le_of_ble_eq_true rfl⟩ rfl rfl (c_endLine (dd := d) (hd := by omega) (hW := hW174)  (ln := ln) (e_ln := show G169 9 = ln from ((hF175.1 9 rfl).trans ((hF156.1 9 rfl).trans ((hF124.1 9 rfl).trans (e_ln))))) (li := li) (e_li := show G169 3 = li from ((hF175.1 3 rfl).trans ((hF156.1 3 rfl).trans ((hF124.1 3 rfl).trans (e_li))))) (fk := fk2_173) (e_fk := show G169 16 = fk2_173 from (e178)) (tk0 := tk2_172) (e_tk0 := show G169 11 = tk2_172 from (e177))    (p_0 := by omega)) (fun o V' hq => ?_)
                  obtain ⟨G233, A234, ln2_235, fk2_236, rfl, rfl, hW237, hF238, e239, e240, q241⟩ := hq
                  have hF242 := Fr_tr hF182 hF238 (Fr_sub (by decide)) (Fr_sub (by decide))
                  have hP243 := Pf_f hP183 hF238 (by decide)
                  have hS244 := Fx_f hS184 hF238 (by decide)
                  have hV245 := Fx_f hV185 hF238 (by decide)
                  have sf246 : ND A234 (nd) (28) (1) (0) (0) (0) (0) (0) := ND_ag (by omega) (Ag_fr hF238 (by decide)) sf186
                  have ec247 : ecn A234 (G233 31) = ec2_154 := (ecn_f (hF238.2 15 rfl) (hF238.1 31 rfl)).trans ec187
                  have bln2_235 : (0 : Int) ≤ ln2_235 ∧ ln2_235 ≤ 3000 := e239 ▸ hW237.1 9
                  have bfk2_236 : (0 : Int) ≤ fk2_236 ∧ fk2_236 ≤ 6 := e240 ▸ hW237.1 16
                  refine .inl ⟨rfl, ?_⟩
                  rcases q241 with ⟨a248, a249, a250, a251, a252⟩ | ⟨a253, a254⟩
                  · have _q : True := trivial
                    have b255 : (0 : Int) ≤ A 3 (ln2_235).toNat ∧ A 3 (ln2_235).toNat ≤ 3000 := hW.2 3 _
                    have lt256 : ln2_235 < li → le < A 3 (ln2_235).toNat := fun hh => LT_nx (LT_ext (((hF238.1 3 rfl).trans ((hF175.1 3 rfl).trans ((hF156.1 3 rfl).trans (hF124.1 3 rfl))))) (((hF238.2 3 rfl).trans ((hF175.2 3 rfl).trans ((hF156.2 3 rfl).trans (hF124.2 3 rfl))))) (((hF238.2 4 rfl).trans ((hF175.2 4 rfl).trans ((hF156.2 4 rfl).trans (hF124.2 4 rfl))))) i_LT) (show G233 3 = li from ((hF238.1 3 rfl).trans ((hF175.1 3 rfl).trans ((hF156.1 3 rfl).trans ((hF124.1 3 rfl).trans (e_li)))))) (show A234 4 (ln).toNat = le from (congrFun ((hF238.2 4 rfl).trans ((hF175.2 4 rfl).trans ((hF156.2 4 rfl).trans (hF124.2 4 rfl)))) _).trans (e_le)) (show A234 3 (ln2_235).toNat = A 3 (ln2_235).toNat from (congrFun ((hF238.2 3 rfl).trans ((hF175.2 3 rfl).trans ((hF156.2 3 rfl).trans (hF124.2 3 rfl)))) _)) (show ln2_235 = ln + 1 by omega) (by omega) hh
                    refine jx_ld (pc' := 177) (l' := L168) (st' := [.ref 66]) rfl (jl_aloadn gL168_0) ?_
                    refine jx_ld (pc' := 178) (l' := L168) (st' := [.int (i32 (nd)), .ref 66]) rfl (jl_iloadn gL168_2) ?_
                    refine jx_ld (pc' := 179) (l' := L168) (st' := [.int (i32 (lv)), .int (i32 (nd)), .ref 66]) rfl (jl_iloadn gL168_1) ?_
                    refine jx_ar (pc' := 180) (st' := [.int (i32 (2)), .int (i32 (lv)), .int (i32 (nd)), .ref 66]) rfl rfl rfl rfl ?_
                    refine jx_ar (pc' := 181) (st' := [.int (i32 (2)), .int (i32 (2)), .int (i32 (lv)), .int (i32 (nd)), .ref 66]) rfl rfl rfl rfl ?_
                    refine jx_vr (pc' := 184) (as := [.int (i32 (nd)), .int (i32 (lv)), .int (i32 (2)), .int (i32 (2))]) (st := []) rfl rfl rfl rfl ⟨rfl, rfl, Nat.le_of_ble_eq_true rfl⟩ rfl rfl (c_readChildren_w (dd := d) (hP := hP) (zz := nd) (hd := by omega) (hW := hW237) (n := nd) (lv := lv) (least := 2) (mo := 2) (kk := 28) (aa := 1) (bb := 0) (cc := 0) (de := 0) (xx := 0) (ln := ln2_235) (e_ln := show G233 9 = ln2_235 from (e239)) (li := li) (e_li := show G233 3 = li from ((hF238.1 3 rfl).trans ((hF175.1 3 rfl).trans ((hF156.1 3 rfl).trans ((hF124.1 3 rfl).trans (e_li)))))) (at0 := at2_171) (e_at0 := show G233 10 = at2_171 from ((hF238.1 10 rfl).trans (e176))) (fk := fk2_236) (e_fk := show G233 16 = fk2_236 from (e240)) (nd := nd2_153) (e_nd := show G233 31 = nd2_153 from ((hF238.1 31 rfl).trans ((hF175.1 31 rfl).trans (e158)))) (sy := sy) (e_sy := show G233 19 = sy from ((hF238.1 19 rfl).trans ((hF175.1 19 rfl).trans ((hF156.1 19 rfl).trans ((hF124.1 19 rfl).trans (e_sy)))))) (na := na) (e_na := show G233 28 = na from ((hF238.1 28 rfl).trans ((hF175.1 28 rfl).trans ((hF156.1 28 rfl).trans ((hF124.1 28 rfl).trans (e_na)))))) (vi := vi) (e_vi := show G233 29 = vi from ((hF238.1 29 rfl).trans ((hF175.1 29 rfl).trans ((hF156.1 29 rfl).trans ((hF124.1 29 rfl).trans (e_vi)))))) (lf := A 3 (ln2_235).toNat) (e_lf := show A234 3 (ln2_235).toNat = A 3 (ln2_235).toNat from (congrFun ((hF238.2 3 rfl).trans ((hF175.2 3 rfl).trans ((hF156.2 3 rfl).trans (hF124.2 3 rfl)))) _)) (ec := ec2_154) (e_ec := show ecn A234 (G233 31) = ec2_154 from ec247) (i_LT := (LT_ext (((hF238.1 3 rfl).trans ((hF175.1 3 rfl).trans ((hF156.1 3 rfl).trans (hF124.1 3 rfl))))) (((hF238.2 3 rfl).trans ((hF175.2 3 rfl).trans ((hF156.2 3 rfl).trans (hF124.2 3 rfl))))) (((hF238.2 4 rfl).trans ((hF175.2 4 rfl).trans ((hF156.2 4 rfl).trans (hF124.2 4 rfl))))) i_LT)) (i_SV := (SV_fx i_SV e_vi (show G233 29 = vi from ((hF238.1 29 rfl).trans ((hF175.1 29 rfl).trans ((hF156.1 29 rfl).trans ((hF124.1 29 rfl).trans (e_vi)))))) (by omega) hV245)) (i_PQ := (PQ_fx i_PQ hS244 (by omega) (hF242.2 29 rfl) (hF242.2 30 rfl))) (hvb := hvb) (h_n := ⟨(Int.le_trans (by decide : (-2147483648 : Int) ≤ 0) b_nd.1), (Int.le_trans b_nd.2 (by decide : (6999 : Int) ≤ 2147483647))⟩) (h_lv := ⟨(Int.le_trans (by decide : (-2147483648 : Int) ≤ -2147483648) h_lv.1), (Int.le_trans h_lv.2 (by decide : (2147483647 : Int) ≤ 2147483647))⟩) (h_least := ⟨(by decide), (by decide)⟩) (h_mo := ⟨(by decide), (by decide)⟩)  (p_0 := by omega) (p_1 := by omega) (p_2 := by omega) (p_3 := by omega) (p_4 := by omega) (p_5 := by omega) (p_6 := by omega) (p_7 := by omega) (p_8 := by omega) (p_9 := by omega) (p_10 := by omega) (p_11 := by omega) (p_12 := by omega) (p_13 := by omega) (p_14 := by omega) (p_15 := sf246)) (fun o V' hq => ?_)
                    obtain ⟨G257, A258, ln2_259, at2_260, fk2_261, nd2_262, sy2_263, na2_264, vi2_265, lf2_266, mm_267, f2_268, ec2_269, rfl, rfl, hW270, hF271, hQ272, hQ273, hQ274, hQ275, e276, e277, e278, e279, e280, e281, e282, e283, e284, e285, e286, p287, p288, p289, p290, p291, p292, p293, q294⟩ := hq
                    have hF295 := Fr_tr hF242 hF271 (Fr_sub (by decide)) (Fr_sub (by decide))
                    have hP296 := Pf_tr hP243 hQ272 (by omega)
                    have hS297 := Fx_tr hS244 hQ274 (by omega)
                    have hV298 := Fx_tr hV245 hQ275 (by omega)
                    have bln2_259 : (0 : Int) ≤ ln2_259 ∧ ln2_259 ≤ 3000 := e276 ▸ hW270.1 9
                    have bat2_260 : (0 : Int) ≤ at2_260 ∧ at2_260 ≤ 3002 := e277 ▸ hW270.1 10
                    have bfk2_261 : (0 : Int) ≤ fk2_261 ∧ fk2_261 ≤ 6 := e278 ▸ hW270.1 16
                    have bnd2_262 : (0 : Int) ≤ nd2_262 ∧ nd2_262 ≤ 6999 := e279 ▸ hW270.1 31
                    have bsy2_263 : (0 : Int) ≤ sy2_263 ∧ sy2_263 ≤ 202 := e280 ▸ hW270.1 19
                    have bna2_264 : (0 : Int) ≤ na2_264 ∧ na2_264 ≤ 200 := e281 ▸ hW270.1 28
                    have bvi2_265 : (0 : Int) ≤ vi2_265 ∧ vi2_265 ≤ 202 := e282 ▸ hW270.1 29
                    have blf2_266 : (0 : Int) ≤ lf2_266 ∧ lf2_266 ≤ 3000 := e283 ▸ hW270.2 3 _
                    have bmm_267 : (-2147483648 : Int) ≤ mm_267 ∧ mm_267 ≤ 2147483647 := e284 ▸ hW270.2 18 _
                    have bf2_268 : (-2147483648 : Int) ≤ f2_268 ∧ f2_268 ≤ 2147483647 := e285 ▸ hW270.2 21 _
                    refine .inl ⟨rfl, ?_⟩
                    rcases q294 with ⟨a299, a300⟩ | ⟨a301, a302, a303, a304, a305, a306, a307, a308⟩
                    · have _q : True := trivial
                      refine jx_ld (pc' := 185) (l' := L168) (st' := [.int (i32 (nd))]) rfl (jl_iloadn gL168_2) ?_
                      refine jx_rt (v := some (.int (i32 (nd)))) rfl rfl rfl rfl rfl rfl ?_
                      exact ⟨_, _, _, ln2_259, at2_260, fk2_261, nd2_262, sy2_263, na2_264, vi2_265, lf2_266, ec2_269, rfl, rfl, hW270, hF295, hP296, hS297, hV298, by omega, (e276), (e277), (e278), (e279), (e280), (e281), (e282), (e283), e286, by omega, by omega, by omega, by omega, by omega, by omega, by omega, by omega, by omega, by omega, by first | exact Or.inl (⟨by omega, by omega⟩)⟩
                    · have _q : True := trivial
                      refine jx_ld (pc' := 185) (l' := L168) (st' := [.int (i32 (nd))]) rfl (jl_iloadn gL168_2) ?_
                      refine jx_rt (v := some (.int (i32 (nd)))) rfl rfl rfl rfl rfl rfl ?_
                      exact ⟨_, _, _, ln2_259, at2_260, fk2_261, nd2_262, sy2_263, na2_264, vi2_265, lf2_266, ec2_269, rfl, rfl, hW270, hF295, hP296, hS297, hV298, by omega, (e276), (e277), (e278), (e279), (e280), (e281), (e282), (e283), e286, by omega, by omega, by omega, by omega, by omega, by omega, by omega, by omega, by omega, by omega, by first | exact Or.inr ((⟨by omega, by omega, by omega, by omega, by omega, by omega, by omega, (wS_par a306 (RL_eq a307 (by omega) (by omega) (by omega) (by omega) (by omega)) (by omega) (by omega) (by omega)), (NX_nd a306), by omega, by omega⟩))⟩
                  · have _q : True := trivial
                    refine jx_ld (pc' := 177) (l' := L168) (st' := [.ref 66]) rfl (jl_aloadn gL168_0) ?_
                    refine jx_ld (pc' := 178) (l' := L168) (st' := [.int (i32 (nd)), .ref 66]) rfl (jl_iloadn gL168_2) ?_
                    refine jx_ld (pc' := 179) (l' := L168) (st' := [.int (i32 (lv)), .int (i32 (nd)), .ref 66]) rfl (jl_iloadn gL168_1) ?_
                    refine jx_ar (pc' := 180) (st' := [.int (i32 (2)), .int (i32 (lv)), .int (i32 (nd)), .ref 66]) rfl rfl rfl rfl ?_
                    refine jx_ar (pc' := 181) (st' := [.int (i32 (2)), .int (i32 (2)), .int (i32 (lv)), .int (i32 (nd)), .ref 66]) rfl rfl rfl rfl ?_
                    refine jx_vr (pc' := 184) (as := [.int (i32 (nd)), .int (i32 (lv)), .int (i32 (2)), .int (i32 (2))]) (st := []) rfl rfl rfl rfl ⟨rfl, rfl, Nat.le_of_ble_eq_true rfl⟩ rfl rfl (c_readChildren_f (dd := d) (zz := nd) (hd := by omega) (hW := hW237) (n := nd) (lv := lv) (least := 2) (mo := 2) (fk := fk2_236) (e_fk := show G233 16 = fk2_236 from (e240))  (h_n := ⟨(Int.le_trans (by decide : (-2147483648 : Int) ≤ 0) b_nd.1), (Int.le_trans b_nd.2 (by decide : (6999 : Int) ≤ 2147483647))⟩) (h_lv := ⟨(Int.le_trans (by decide : (-2147483648 : Int) ≤ -2147483648) h_lv.1), (Int.le_trans h_lv.2 (by decide : (2147483647 : Int) ≤ 2147483647))⟩) (h_least := ⟨(by decide), (by decide)⟩) (h_mo := ⟨(by decide), (by decide)⟩)  (p_0 := by omega) (p_1 := by omega) (p_2 := by omega) (p_3 := by omega)) (fun o V' hq => ?_)
                    obtain ⟨G309, A310, fk2_311, rfl, rfl, hW312, hF313, hQ314, e315, p316, -⟩ := hq
                    have hF318 := Fr_tr hF242 hF313 (Fr_sub (by decide)) (Fr_sub (by decide))
                    have hP319 := Pf_tr hP243 hQ314 (by omega)
                    have hS320 := Fx_f hS244 hF313 (by decide)
                    have hV321 := Fx_f hV245 hF313 (by decide)
                    have ec322 : ecn A310 (G309 31) = ec2_154 := (ecn_f (hF313.2 15 rfl) (hF313.1 31 rfl)).trans ec247
                    have bfk2_311 : (0 : Int) ≤ fk2_311 ∧ fk2_311 ≤ 6 := e315 ▸ hW312.1 16
                    refine .inl ⟨rfl, ?_⟩
                    refine jx_ld (pc' := 185) (l' := L168) (st' := [.int (i32 (nd))]) rfl (jl_iloadn gL168_2) ?_
                    refine jx_rt (v := some (.int (i32 (nd)))) rfl rfl rfl rfl rfl rfl ?_
                    exact ⟨_, _, _, ln2_235, at2_171, fk2_311, nd2_153, sy, na, vi, A 3 (ln2_235).toNat, ec2_154, rfl, rfl, hW312, hF318, hP319, hS320, hV321, by omega, ((hF313.1 9 rfl).trans (e239)), ((hF313.1 10 rfl).trans ((hF238.1 10 rfl).trans (e176))), (e315), ((hF313.1 31 rfl).trans ((hF238.1 31 rfl).trans ((hF175.1 31 rfl).trans (e158)))), ((hF313.1 19 rfl).trans ((hF238.1 19 rfl).trans ((hF175.1 19 rfl).trans ((hF156.1 19 rfl).trans ((hF124.1 19 rfl).trans (e_sy)))))), ((hF313.1 28 rfl).trans ((hF238.1 28 rfl).trans ((hF175.1 28 rfl).trans ((hF156.1 28 rfl).trans ((hF124.1 28 rfl).trans (e_na)))))), ((hF313.1 29 rfl).trans ((hF238.1 29 rfl).trans ((hF175.1 29 rfl).trans ((hF156.1 29 rfl).trans ((hF124.1 29 rfl).trans (e_vi)))))), (congrFun ((hF313.2 3 rfl).trans ((hF238.2 3 rfl).trans ((hF175.2 3 rfl).trans ((hF156.2 3 rfl).trans (hF124.2 3 rfl))))) _), ec322, by omega, by omega, by omega, by omega, by omega, by omega, by omega, by omega, by omega, by omega, by first | exact Or.inl (⟨by omega, by omega⟩)⟩
              · have _q := h150
                exact absurd h150 (by omega)
            · have _q : True := trivial
              refine jx_if_ne (pc' := 145) (tg := 156) rfl rfl rfl (by decide) (by decide) (fun h323 => ?_) (fun h323 => ?_)
              · have _q := h323
                exact absurd h323 (by omega)
              · have _q := h323
                refine jx_ld (pc' := 146) (l' := L7) (st' := [.ref 66]) rfl (jl_aloadn gL7_0) ?_
                refine jx_ar (pc' := 147) (st' := [.int (i32 (1)), .ref 66]) rfl rfl rfl rfl ?_
                refine jx_ld (pc' := 148) (l' := L7) (st' := [.ref 66, .int (i32 (1)), .ref 66]) rfl (jl_aloadn gL7_0) ?_
                have b324 : (-3000 : Int) ≤ G119 12 ∧ G119 12 ≤ 3002 := hW123.1 12
                refine jr_get (pc' := 151) (i := 12) (v := .int (i32 (G119 12))) rfl rfl (by decide) rfl rfl ?_
                refine jx_vr (pc' := 154) (as := [.int (i32 (1)), .int (i32 (G119 12))]) (st := []) rfl rfl rfl rfl ⟨rfl, rfl, Nat.le_of_ble_eq_true rfl⟩ rfl rfl (c_fail (dd := d) (hd := by omega) (hW := hW123) (kind := 1) (place := G119 12) (fk := fk) (e_fk := show G119 16 = fk from ((hF124.1 16 rfl).trans (e_fk)))  (h_kind := ⟨(by decide), (by decide)⟩) (h_place := ⟨(Int.le_trans (by decide : (-2147483648 : Int) ≤ -3000) b324.1), (Int.le_trans b324.2 (by decide : (3002 : Int) ≤ 2147483647))⟩)  (p_0 := by omega) (p_1 := by omega)) (fun o V' hq => ?_)
                obtain ⟨G325, A326, fk2_327, rfl, rfl, hW328, hF329, e330, p331, -⟩ := hq
                have hF333 := Fr_tr hF131 hF329 (Fr_sub (by decide)) (Fr_sub (by decide))
                have hP334 := Pf_f hP132 hF329 (by decide)
                have hS335 := Fx_f hS133 hF329 (by decide)
                have hV336 := Fx_f hV134 hF329 (by decide)
                have ec337 : ecn A326 (G325 31) = ec := (ecn_f (hF329.2 15 rfl) (hF329.1 31 rfl)).trans ec135
                have bfk2_327 : (0 : Int) ≤ fk2_327 ∧ fk2_327 ≤ 6 := e330 ▸ hW328.1 16
                refine .inl ⟨rfl, ?_⟩
                refine jx_ar (pc' := 155) (st' := [.int (i32 (0))]) rfl rfl rfl rfl ?_
                refine jx_rt (v := some (.int (i32 (0)))) rfl rfl rfl rfl rfl rfl ?_
                exact ⟨_, _, _, ln, at2_121, fk2_327, nd, sy, na, vi, A 3 (ln).toNat, ec, rfl, rfl, hW328, hF333, hP334, hS335, hV336, by omega, ((hF329.1 9 rfl).trans ((hF124.1 9 rfl).trans (e_ln))), ((hF329.1 10 rfl).trans (e125)), (e330), ((hF329.1 31 rfl).trans ((hF124.1 31 rfl).trans (e_nd))), ((hF329.1 19 rfl).trans ((hF124.1 19 rfl).trans (e_sy))), ((hF329.1 28 rfl).trans ((hF124.1 28 rfl).trans (e_na))), ((hF329.1 29 rfl).trans ((hF124.1 29 rfl).trans (e_vi))), (congrFun ((hF329.2 3 rfl).trans (hF124.2 3 rfl)) _), ec337, by omega, by omega, by omega, by omega, by omega, by omega, by omega, by omega, by omega, by omega, by first | exact Or.inl (⟨by omega, by omega⟩)⟩
      · refine jx_swe (z := 4) (tg := 253) h8 rfl rfl rfl rfl ?_
        refine jx_ld (pc' := 254) (l' := L7) (st' := [.ref 66]) rfl (jl_aloadn gL7_0) ?_
        refine jx_ld (pc' := 255) (l' := L7) (st' := [.int (i32 (lv)), .ref 66]) rfl (jl_iloadn gL7_1) ?_
        refine jx_vr (pc' := 258) (as := [.int (i32 (lv))]) (st := []) rfl rfl rfl rfl ⟨rfl, rfl, Nat.le_of_ble_eq_true rfl⟩ rfl rfl (c_readAlt_w (dd := d) (hP := hP) (hd := by omega) (hW := hW) (lv := lv) (ln := ln) (e_ln := show G 9 = ln from (e_ln)) (li := li) (e_li := show G 3 = li from (e_li)) (at0 := at0) (e_at0 := show G 10 = at0 from (e_at0)) (fk := fk) (e_fk := show G 16 = fk from (e_fk)) (nd := nd) (e_nd := show G 31 = nd from (e_nd)) (sy := sy) (e_sy := show G 19 = sy from (e_sy)) (na := na) (e_na := show G 28 = na from (e_na)) (vi := vi) (e_vi := show G 29 = vi from (e_vi)) (le := le) (e_le := show A 4 (ln).toNat = le from (e_le)) (op0 := op0) (e_op0 := show G 15 = op0 from (e_op0)) (tk0 := tk0) (e_tk0 := show G 11 = tk0 from (e_tk0)) (ec := ec) (e_ec := show ecn A (G 31) = ec from e_ec) (i_LT := (LT_ext (rfl) (rfl) (rfl) i_LT)) (i_SV := (SV_fx i_SV e_vi (show G 29 = vi from (e_vi)) (by omega) hV0)) (i_PQ := (PQ_fx i_PQ hS0 (by omega) (hF0.2 29 rfl) (hF0.2 30 rfl))) (hvb := hvb) (h_lv := ⟨(Int.le_trans (by decide : (-2147483648 : Int) ≤ -2147483648) h_lv.1), (Int.le_trans h_lv.2 (by decide : (2147483647 : Int) ≤ 2147483647))⟩)  (p_0 := by omega) (p_1 := by omega) (p_2 := by omega) (p_3 := by omega) (p_4 := by omega) (p_5 := by omega) (p_6 := by omega) (p_7 := by omega) (p_8 := by omega) (p_9 := by omega) (p_10 := by omega)) (fun o V' hq => ?_)
        obtain ⟨G338, A339, r340, ln2_341, at2_342, fk2_343, nd2_344, sy2_345, na2_346, vi2_347, lf2_348, ec2_349, rfl, rfl, hW350, hF351, hQ352, hQ353, hQ354, b355, e356, e357, e358, e359, e360, e361, e362, e363, e364, p365, p366, p367, p368, p369, p370, p371, p372, p373, p374, q375⟩ := hq
        have hF376 := Fr_tr hF0 hF351 (Fr_sub (by decide)) (Fr_sub (by decide))
        have hP377 := Pf_tr hP0 hQ352 (by omega)
        have hS378 := Fx_tr hS0 hQ353 (by omega)
        have hV379 := Fx_tr hV0 hQ354 (by omega)
        have bln2_341 : (0 : Int) ≤ ln2_341 ∧ ln2_341 ≤ 3000 := e356 ▸ hW350.1 9
        have bat2_342 : (0 : Int) ≤ at2_342 ∧ at2_342 ≤ 3002 := e357 ▸ hW350.1 10
        have bfk2_343 : (0 : Int) ≤ fk2_343 ∧ fk2_343 ≤ 6 := e358 ▸ hW350.1 16
        have bnd2_344 : (0 : Int) ≤ nd2_344 ∧ nd2_344 ≤ 6999 := e359 ▸ hW350.1 31
        have bsy2_345 : (0 : Int) ≤ sy2_345 ∧ sy2_345 ≤ 202 := e360 ▸ hW350.1 19
        have bna2_346 : (0 : Int) ≤ na2_346 ∧ na2_346 ≤ 200 := e361 ▸ hW350.1 28
        have bvi2_347 : (0 : Int) ≤ vi2_347 ∧ vi2_347 ≤ 202 := e362 ▸ hW350.1 29
        have blf2_348 : (0 : Int) ≤ lf2_348 ∧ lf2_348 ≤ 3000 := e363 ▸ hW350.2 3 _
        refine .inr ⟨_, rfl, ?_⟩
        rcases q375 with ⟨a380, a381⟩ | ⟨a382, a383, a384, a385, a386, a387, a388, a389, a390, a391, a392⟩
        · have _q : True := trivial
          refine jx_rt (v := some (.int (i32 (r340)))) rfl rfl rfl rfl rfl rfl ?_
          exact ⟨_, _, _, ln2_341, at2_342, fk2_343, nd2_344, sy2_345, na2_346, vi2_347, lf2_348, ec2_349, rfl, rfl, hW350, hF376, hP377, hS378, hV379, by omega, (e356), (e357), (e358), (e359), (e360), (e361), (e362), (e363), e364, by omega, by omega, by omega, by omega, by omega, by omega, by omega, by omega, by omega, by omega, by first | exact Or.inl (⟨by omega, by omega⟩)⟩
        · have _q : True := trivial
          refine jx_rt (v := some (.int (i32 (r340)))) rfl rfl rfl rfl rfl rfl ?_
          exact ⟨_, _, _, ln2_341, at2_342, fk2_343, nd2_344, sy2_345, na2_346, vi2_347, lf2_348, ec2_349, rfl, rfl, hW350, hF376, hP377, hS378, hV379, by omega, (e356), (e357), (e358), (e359), (e360), (e361), (e362), (e363), e364, by omega, by omega, by omega, by omega, by omega, by omega, by omega, by omega, by omega, by omega, by first | exact Or.inr ((⟨by omega, by omega, by omega, by omega, by omega, by omega, by omega, a389, a390, by omega, by omega⟩))⟩
      · refine jx_swe (z := 5) (tg := 192) h8 rfl rfl rfl rfl ?_
        refine jx_ld (pc' := 193) (l' := L7) (st' := [.ref 66]) rfl (jl_aloadn gL7_0) ?_
        refine jx_ld (pc' := 194) (l' := L7) (st' := [.int (i32 (lv)), .ref 66]) rfl (jl_iloadn gL7_1) ?_
        refine jx_vr (pc' := 197) (as := [.int (i32 (lv))]) (st := []) rfl rfl rfl rfl ⟨rfl, rfl, Nat.le_of_ble_eq_true rfl⟩ rfl rfl (c_readIf_w (dd := d) (hP := hP) (hd := by omega) (hW := hW) (lv := lv) (ln := ln) (e_ln := show G 9 = ln from (e_ln)) (li := li) (e_li := show G 3 = li from (e_li)) (at0 := at0) (e_at0 := show G 10 = at0 from (e_at0)) (fk := fk) (e_fk := show G 16 = fk from (e_fk)) (nd := nd) (e_nd := show G 31 = nd from (e_nd)) (sy := sy) (e_sy := show G 19 = sy from (e_sy)) (na := na) (e_na := show G 28 = na from (e_na)) (vi := vi) (e_vi := show G 29 = vi from (e_vi)) (le := le) (e_le := show A 4 (ln).toNat = le from (e_le)) (op0 := op0) (e_op0 := show G 15 = op0 from (e_op0)) (tk0 := tk0) (e_tk0 := show G 11 = tk0 from (e_tk0)) (ec := ec) (e_ec := show ecn A (G 31) = ec from e_ec) (i_LT := (LT_ext (rfl) (rfl) (rfl) i_LT)) (i_SV := (SV_fx i_SV e_vi (show G 29 = vi from (e_vi)) (by omega) hV0)) (i_PQ := (PQ_fx i_PQ hS0 (by omega) (hF0.2 29 rfl) (hF0.2 30 rfl))) (hvb := hvb) (h_lv := ⟨(Int.le_trans (by decide : (-2147483648 : Int) ≤ -2147483648) h_lv.1), (Int.le_trans h_lv.2 (by decide : (2147483647 : Int) ≤ 2147483647))⟩)  (p_0 := by omega) (p_1 := by omega) (p_2 := by omega) (p_3 := by omega) (p_4 := by omega) (p_5 := by omega) (p_6 := by omega) (p_7 := by omega) (p_8 := by omega) (p_9 := by omega) (p_10 := by omega)) (fun o V' hq => ?_)
        obtain ⟨G393, A394, r395, ln2_396, at2_397, fk2_398, nd2_399, sy2_400, na2_401, vi2_402, lf2_403, ec2_404, rfl, rfl, hW405, hF406, hQ407, hQ408, hQ409, b410, e411, e412, e413, e414, e415, e416, e417, e418, e419, p420, p421, p422, p423, p424, p425, p426, p427, p428, p429, q430⟩ := hq
        have hF431 := Fr_tr hF0 hF406 (Fr_sub (by decide)) (Fr_sub (by decide))
        have hP432 := Pf_tr hP0 hQ407 (by omega)
        have hS433 := Fx_tr hS0 hQ408 (by omega)
        have hV434 := Fx_tr hV0 hQ409 (by omega)
        have bln2_396 : (0 : Int) ≤ ln2_396 ∧ ln2_396 ≤ 3000 := e411 ▸ hW405.1 9
        have bat2_397 : (0 : Int) ≤ at2_397 ∧ at2_397 ≤ 3002 := e412 ▸ hW405.1 10
        have bfk2_398 : (0 : Int) ≤ fk2_398 ∧ fk2_398 ≤ 6 := e413 ▸ hW405.1 16
        have bnd2_399 : (0 : Int) ≤ nd2_399 ∧ nd2_399 ≤ 6999 := e414 ▸ hW405.1 31
        have bsy2_400 : (0 : Int) ≤ sy2_400 ∧ sy2_400 ≤ 202 := e415 ▸ hW405.1 19
        have bna2_401 : (0 : Int) ≤ na2_401 ∧ na2_401 ≤ 200 := e416 ▸ hW405.1 28
        have bvi2_402 : (0 : Int) ≤ vi2_402 ∧ vi2_402 ≤ 202 := e417 ▸ hW405.1 29
        have blf2_403 : (0 : Int) ≤ lf2_403 ∧ lf2_403 ≤ 3000 := e418 ▸ hW405.2 3 _
        refine .inr ⟨_, rfl, ?_⟩
        rcases q430 with ⟨a435, a436⟩ | ⟨a437, a438, a439, a440, a441, a442, a443, a444, a445, a446, a447⟩
        · have _q : True := trivial
          refine jx_rt (v := some (.int (i32 (r395)))) rfl rfl rfl rfl rfl rfl ?_
          exact ⟨_, _, _, ln2_396, at2_397, fk2_398, nd2_399, sy2_400, na2_401, vi2_402, lf2_403, ec2_404, rfl, rfl, hW405, hF431, hP432, hS433, hV434, by omega, (e411), (e412), (e413), (e414), (e415), (e416), (e417), (e418), e419, by omega, by omega, by omega, by omega, by omega, by omega, by omega, by omega, by omega, by omega, by first | exact Or.inl (⟨by omega, by omega⟩)⟩
        · have _q : True := trivial
          refine jx_rt (v := some (.int (i32 (r395)))) rfl rfl rfl rfl rfl rfl ?_
          exact ⟨_, _, _, ln2_396, at2_397, fk2_398, nd2_399, sy2_400, na2_401, vi2_402, lf2_403, ec2_404, rfl, rfl, hW405, hF431, hP432, hS433, hV434, by omega, (e411), (e412), (e413), (e414), (e415), (e416), (e417), (e418), e419, by omega, by omega, by omega, by omega, by omega, by omega, by omega, by omega, by omega, by omega, by first | exact Or.inr ((⟨by omega, by omega, by omega, by omega, by omega, by omega, by omega, a444, a445, by omega, by omega⟩))⟩
      · refine jx_swe (z := 6) (tg := 198) h8 rfl rfl rfl rfl ?_
        refine jx_ld (pc' := 199) (l' := L7) (st' := [.ref 66]) rfl (jl_aloadn gL7_0) ?_
        refine jx_vr (pc' := 202) (as := []) (st := []) rfl rfl rfl rfl ⟨rfl, rfl, Nat.le_of_ble_eq_true rfl⟩ rfl rfl (c_next (dd := d) (hd := by omega) (hW := hW)  (ln := ln) (e_ln := show G 9 = ln from (e_ln)) (le := le) (e_le := show A 4 (ln).toNat = le from (e_le)) (at0 := at0) (e_at0 := show G 10 = at0 from (e_at0))    (p_0 := by omega)) (fun o V' hq => ?_)
        obtain ⟨G448, A449, at2_450, tk2_451, rfl, rfl, hW452, hF453, e454, e455, p456, p457, p458, -⟩ := hq
        have hF460 := Fr_tr hF0 hF453 (Fr_sub (by decide)) (Fr_sub (by decide))
        have hP461 := Pf_f hP0 hF453 (by decide)
        have hS462 := Fx_f hS0 hF453 (by decide)
        have hV463 := Fx_f hV0 hF453 (by decide)
        have ec464 : ecn A449 (G448 31) = ec := (ecn_f (hF453.2 15 rfl) (hF453.1 31 rfl)).trans e_ec
        have bat2_450 : (0 : Int) ≤ at2_450 ∧ at2_450 ≤ 3002 := e454 ▸ hW452.1 10
        have ztk2_451 := tz_b tk2_451
        have btk2_451 : (0 : Int) ≤ tk2_451 ∧ tk2_451 ≤ 5 := e455 ▸ hW452.1 11
        refine .inl ⟨rfl, ?_⟩
        have pz465 : at0 + tz tk2_451 ≤ at2_450 := by omega
        refine jx_ld (pc' := 203) (l' := L7) (st' := [.ref 66]) rfl (jl_aloadn gL7_0) ?_
        refine jx_ar (pc' := 205) (st' := [.int (i32 (31)), .ref 66]) rfl rfl rfl rfl ?_
        refine jx_ar (pc' := 206) (st' := [.int (i32 (0)), .int (i32 (31)), .ref 66]) rfl rfl rfl rfl ?_
        refine jx_ar (pc' := 207) (st' := [.int (i32 (0)), .int (i32 (0)), .int (i32 (31)), .ref 66]) rfl rfl rfl rfl ?_
        refine jx_ar (pc' := 208) (st' := [.int (i32 (0)), .int (i32 (0)), .int (i32 (0)), .int (i32 (31)), .ref 66]) rfl rfl rfl rfl ?_
        refine jx_ar (pc' := 209) (st' := [.int (i32 (0)), .int (i32 (0)), .int (i32 (0)), .int (i32 (0)), .int (i32 (31)), .ref 66]) rfl rfl rfl rfl ?_
        refine jx_vr (pc' := 212) (as := [.int (i32 (31)), .int (i32 (0)), .int (i32 (0)), .int (i32 (0)), .int (i32 (0))]) (st := []) rfl rfl rfl rfl ⟨rfl, rfl, Nat.le_of_ble_eq_true rfl⟩ rfl rfl (c_node_o (dd := d) (hd := by omega) (hW := hW452) (kind := 31) (a := 0) (b := 0) (c := 0) (e := 0) (nd := nd) (e_nd := show G448 31 = nd from ((hF453.1 31 rfl).trans (e_nd))) (ec := ec) (e_ec := show ecn A449 (G448 31) = ec from ec464)  (h_kind := ⟨(by decide), (by decide)⟩) (h_a := ⟨(by decide), (by decide)⟩) (h_b := ⟨(by decide), (by decide)⟩) (h_c := ⟨(by decide), (by decide)⟩) (h_e := ⟨(by decide), (by decide)⟩)  (p_0 := by omega) (p_1 := by omega) (p_2 := by omega)) (fun o V' hq => ?_)
        obtain ⟨G466, A467, nd2_468, ec2_469, rfl, rfl, hW470, hF471, hQ472, e473, e474, p475, p476, p477, -⟩ := hq
        have hF479 := Fr_tr hF460 hF471 (Fr_sub (by decide)) (Fr_sub (by decide))
        have hP480 := Pf_tr hP461 hQ472 (by omega)
        have hS481 := Fx_f hS462 hF471 (by decide)
        have hV482 := Fx_f hV463 hF471 (by decide)
        have bnd2_468 : (0 : Int) ≤ nd2_468 ∧ nd2_468 ≤ 6999 := e473 ▸ hW470.1 31
        refine .inr ⟨_, rfl, ?_⟩
        refine jx_ld (pc' := 213) (l' := jSto1 L7 2 (.int (i32 (nd)))) (st' := []) rfl rfl ?_
        obtain ⟨L483, eL483⟩ : ∃ q, q = jSto1 L7 2 (.int (i32 (nd))) := ⟨_, rfl⟩
        rw [← eL483]
        have gL483_0 : jGet L483 0 = some (.ref 66) := eL483 ▸ jg_ne (by decide) gL7_0 rfl
        have gL483_1 : jGet L483 1 = some (.int (i32 (lv))) := eL483 ▸ jg_ne (by decide) gL7_1 rfl
        have gL483_3 : jGet L483 3 = some (.int (i32 (G 13))) := eL483 ▸ jg_ne (by decide) gL7_3 rfl
        have gL483_2 : jGet L483 2 = some (.int (i32 (nd))) := eL483 ▸ jg_eq
        refine jx_ld (pc' := 214) (l' := L483) (st' := [.ref 66]) rfl (jl_aloadn gL483_0) ?_
        refine jr_get (pc' := 217) (i := 34) (v := .ref 84) rfl rfl (by decide) rfl rfl ?_
        refine jx_ld (pc' := 218) (l' := L483) (st' := [.int (i32 (nd)), .ref 84]) rfl (jl_iloadn gL483_2) ?_
        refine jx_ld (pc' := 219) (l' := L483) (st' := [.ref 66, .int (i32 (nd)), .ref 84]) rfl (jl_aloadn gL483_0) ?_
        refine jx_vr (pc' := 222) (as := []) (st := [.int (i32 (nd)), .ref 84]) rfl rfl rfl rfl ⟨rfl, rfl, Nat.le_of_ble_eq_true rfl⟩ rfl rfl (REw_all X 9 (dd := d) (hd := by omega) (hW := hW470)  (ln := ln) (e_ln := show G466 9 = ln from ((hF471.1 9 rfl).trans ((hF453.1 9 rfl).trans (e_ln)))) (le := le) (e_le := show A467 4 (ln).toNat = le from (congrFun ((hF471.2 4 rfl).trans (hF453.2 4 rfl)) _).trans (e_le)) (at0 := at2_450) (e_at0 := show G466 10 = at2_450 from ((hF471.1 10 rfl).trans (e454))) (fk := fk) (e_fk := show G466 16 = fk from ((hF471.1 16 rfl).trans ((hF453.1 16 rfl).trans (e_fk)))) (op0 := op0) (e_op0 := show G466 15 = op0 from ((hF471.1 15 rfl).trans ((hF453.1 15 rfl).trans (e_op0)))) (nd := nd2_468) (e_nd := show G466 31 = nd2_468 from (e473)) (tk0 := tk2_451) (e_tk0 := show G466 11 = tk2_451 from ((hF471.1 11 rfl).trans (e455))) (ec := ec2_469) (e_ec := show ecn A467 (G466 31) = ec2_469 from e474) (i_SV := (SV_fx i_SV e_vi (show G466 29 = vi from ((hF471.1 29 rfl).trans ((hF453.1 29 rfl).trans (e_vi)))) (by omega) hV482))   (p_0 := by omega) (p_1 := by omega) (p_2 := by omega) (p_3 := by omega) (p_4 := by omega) (p_5 := by omega)) (fun o V' hq => ?_)
        obtain ⟨G484, A485, r486, at2_487, fk2_488, op2_489, nd2_490, tk2_491, ec2_492, rfl, rfl, hW493, hF494, hQ495, b496, e497, e498, e499, e500, e501, e502, p503, p504, p505, p506, p507, p508, q509⟩ := hq
        have hF510 := Fr_tr hF479 hF494 (Fr_sub (by decide)) (Fr_sub (by decide))
        have hP511 := Pf_tr hP480 hQ495 (by omega)
        have hS512 := Fx_f hS481 hF494 (by decide)
        have hV513 := Fx_f hV482 hF494 (by decide)
        have sf514 : ND A485 (nd) (31) (0) (0) (0) (0) (0) (0) := ND_ag (by omega) (Ag_pf hQ495 (by omega)) p477
        have bat2_487 : (0 : Int) ≤ at2_487 ∧ at2_487 ≤ 3002 := e497 ▸ hW493.1 10
        have bfk2_488 : (0 : Int) ≤ fk2_488 ∧ fk2_488 ≤ 6 := e498 ▸ hW493.1 16
        have bop2_489 : (-2147483648 : Int) ≤ op2_489 ∧ op2_489 ≤ 2147483647 := e499 ▸ hW493.1 15
        have bnd2_490 : (0 : Int) ≤ nd2_490 ∧ nd2_490 ≤ 6999 := e500 ▸ hW493.1 31
        have ztk2_491 := tz_b tk2_491
        have btk2_491 : (0 : Int) ≤ tk2_491 ∧ tk2_491 ≤ 5 := e501 ▸ hW493.1 11
        refine .inr ⟨_, rfl, ?_⟩
        rcases q509 with ⟨a515, a516, a517, a518, a519, a520⟩ | ⟨a521, a522, a523⟩ | ⟨a524, a525, a526, a527, a528, a529⟩
        · have _q : True := trivial
          exfalso
          omega
        · have _q : True := trivial
          refine jr_st (pc' := 223) (i := 17) (m := 7000) (z := nd) (y := r486) rfl (by decide) rfl (by decide) (by omega) (by omega) rfl ?_
          have hW531 : Wk G484 (uA A485 17 (nd).toNat (r486)) := Wk_a hW493 (show (-2147483648 : Int) ≤ r486 by omega) (show r486 ≤ (2147483647 : Int) by omega)
          have hF532 := Fr_a (z := r486) (k := 17) (n := (nd).toNat) hF510 (by decide)
          obtain ⟨A530, eA530⟩ : ∃ q, q = uA A485 17 (nd).toNat (r486) := ⟨_, rfl⟩
          rw [← eA530]
          rw [← eA530] at hW531 hF532
          have q533 : A530 17 (nd).toNat = r486 := by rw [eA530]; exact uA_eq
          have hP534 : Pf nd A A530 := eA530 ▸ Pf_a hP511 (z := nd) (by omega) (by omega)
          have hS535 : Fx sr (sy) A A530 := eA530 ▸ Fx_n hS512 rfl
          have hV536 : Fx [14] (vi) A A530 := eA530 ▸ Fx_n hV513 rfl
          have sf537 : ND A530 (nd) (31) (r486) (0) (0) (0) (0) (0) := ND_a eA530 sf514
          have ec538 : ecn A530 (G484 31) = ec2_492 := (ecn_e ((congrFun eA530 15).trans (uA_ne (by decide)))).trans e502
          refine jx_ld (pc' := 224) (l' := L483) (st' := [.ref 66]) rfl (jl_aloadn gL483_0) ?_
          refine jx_vr (pc' := 227) (as := []) (st := []) rfl rfl rfl rfl ⟨rfl, rfl, Nat.le_of_ble_eq_true rfl⟩ rfl rfl (c_endLine (dd := d) (hd := by omega) (hW := hW531)  (ln := ln) (e_ln := show G484 9 = ln from ((hF494.1 9 rfl).trans ((hF471.1 9 rfl).trans ((hF453.1 9 rfl).trans (e_ln))))) (li := li) (e_li := show G484 3 = li from ((hF494.1 3 rfl).trans ((hF471.1 3 rfl).trans ((hF453.1 3 rfl).trans (e_li))))) (fk := fk2_488) (e_fk := show G484 16 = fk2_488 from (e498)) (tk0 := tk2_491) (e_tk0 := show G484 11 = tk2_491 from (e501))    (p_0 := by omega)) (fun o V' hq => ?_)
          obtain ⟨G539, A540, ln2_541, fk2_542, rfl, rfl, hW543, hF544, e545, e546, q547⟩ := hq
          have hF548 := Fr_tr hF532 hF544 (Fr_sub (by decide)) (Fr_sub (by decide))
          have hP549 := Pf_f hP534 hF544 (by decide)
          have hS550 := Fx_f hS535 hF544 (by decide)
          have hV551 := Fx_f hV536 hF544 (by decide)
          have sf552 : ND A540 (nd) (31) (r486) (0) (0) (0) (0) (0) := ND_ag (by omega) (Ag_fr hF544 (by decide)) sf537
          have ec553 : ecn A540 (G539 31) = ec2_492 := (ecn_f (hF544.2 15 rfl) (hF544.1 31 rfl)).trans ec538
          have bln2_541 : (0 : Int) ≤ ln2_541 ∧ ln2_541 ≤ 3000 := e545 ▸ hW543.1 9
          have bfk2_542 : (0 : Int) ≤ fk2_542 ∧ fk2_542 ≤ 6 := e546 ▸ hW543.1 16
          refine .inl ⟨rfl, ?_⟩
          rcases q547 with ⟨a554, a555, a556, a557, a558⟩ | ⟨a559, a560⟩
          · have _q : True := trivial
            exfalso
            omega
          · have _q : True := trivial
            refine jx_ld (pc' := 228) (l' := L483) (st' := [.ref 66]) rfl (jl_aloadn gL483_0) ?_
            refine jr_get (pc' := 231) (i := 38) (v := .ref 88) rfl rfl (by decide) rfl rfl ?_
            refine jx_ld (pc' := 232) (l' := L483) (st' := [.int (i32 (nd)), .ref 88]) rfl (jl_iloadn gL483_2) ?_
            refine jx_ld (pc' := 233) (l' := L483) (st' := [.ref 66, .int (i32 (nd)), .ref 88]) rfl (jl_aloadn gL483_0) ?_
            refine jx_vr (pc' := 236) (as := []) (st := [.int (i32 (nd)), .ref 88]) rfl rfl rfl rfl ⟨rfl, rfl, Nat.le_of_ble_eq_true rfl⟩ rfl rfl (c_bad (dd := d) (hd := by omega) (hW := hW543)  (fk := fk2_542) (e_fk := show G539 16 = fk2_542 from (e546))    ) (fun o V' hq => ?_)
            obtain ⟨r561, rfl, rfl, b562, q563⟩ := hq
            refine .inr ⟨_, rfl, ?_⟩
            rcases q563 with ⟨rfl, a564⟩ | ⟨rfl, a565⟩
            · have _q : True := trivial
              refine jx_if_eq (pc' := 239) (tg := 243) rfl rfl rfl (by decide) (by decide) (fun h566 => ?_) (fun h566 => ?_)
              · have _q := h566
                exact absurd h566 (by omega)
              · have _q := h566
                refine jx_ar (pc' := 240) (st' := [.int (i32 (0)), .int (i32 (nd)), .ref 88]) rfl rfl rfl rfl ?_
                refine jx_go (tg := 250) rfl rfl ?_
                refine jr_st (pc' := 251) (i := 21) (m := 7000) (z := nd) (y := 0) rfl (by decide) rfl (by decide) (by omega) (by omega) rfl ?_
                have hW568 : Wk G539 (uA A540 21 (nd).toNat (0)) := Wk_a hW543 (show (-2147483648 : Int) ≤ 0 by omega) (show 0 ≤ (2147483647 : Int) by omega)
                have hF569 := Fr_a (z := 0) (k := 21) (n := (nd).toNat) hF548 (by decide)
                obtain ⟨A567, eA567⟩ : ∃ q, q = uA A540 21 (nd).toNat (0) := ⟨_, rfl⟩
                rw [← eA567]
                rw [← eA567] at hW568 hF569
                have q570 : A567 21 (nd).toNat = 0 := by rw [eA567]; exact uA_eq
                have hP571 : Pf nd A A567 := eA567 ▸ Pf_a hP549 (z := nd) (by omega) (by omega)
                have hS572 : Fx sr (sy) A A567 := eA567 ▸ Fx_n hS550 rfl
                have hV573 : Fx [14] (vi) A A567 := eA567 ▸ Fx_n hV551 rfl
                have sf574 : ND A567 (nd) (31) (r486) (0) (0) (0) (0) (0) := ND_f eA567 sf552
                have ec575 : ecn A567 (G539 31) = ec2_492 := (ecn_e ((congrFun eA567 15).trans (uA_ne (by decide)))).trans ec553
                refine jx_ld (pc' := 252) (l' := L483) (st' := [.int (i32 (nd))]) rfl (jl_iloadn gL483_2) ?_
                refine jx_rt (v := some (.int (i32 (nd)))) rfl rfl rfl rfl rfl rfl ?_
                exact ⟨_, _, _, ln2_541, at2_487, fk2_542, nd2_490, sy, na, vi, A 3 (ln2_541).toNat, ec2_492, rfl, rfl, hW568, hF569, hP571, hS572, hV573, by omega, (e545), ((hF544.1 10 rfl).trans (e497)), (e546), ((hF544.1 31 rfl).trans (e500)), ((hF544.1 19 rfl).trans ((hF494.1 19 rfl).trans ((hF471.1 19 rfl).trans ((hF453.1 19 rfl).trans (e_sy))))), ((hF544.1 28 rfl).trans ((hF494.1 28 rfl).trans ((hF471.1 28 rfl).trans ((hF453.1 28 rfl).trans (e_na))))), ((hF544.1 29 rfl).trans ((hF494.1 29 rfl).trans ((hF471.1 29 rfl).trans ((hF453.1 29 rfl).trans (e_vi))))), (congrFun (((congrFun eA567 3).trans (uA_ne (by decide))).trans ((hF544.2 3 rfl).trans (((congrFun eA530 3).trans (uA_ne (by decide))).trans ((hF494.2 3 rfl).trans ((hF471.2 3 rfl).trans (hF453.2 3 rfl)))))) _), ec575, by omega, by omega, by omega, by omega, by omega, by omega, by omega, by omega, by omega, by omega, by first | exact Or.inl (⟨by omega, by omega⟩)⟩
            · have _q : True := trivial
              exfalso
              omega
        · have _q : True := trivial
          refine jr_st (pc' := 223) (i := 17) (m := 7000) (z := nd) (y := r486) rfl (by decide) rfl (by decide) (by omega) (by omega) rfl ?_
          have hW577 : Wk G484 (uA A485 17 (nd).toNat (r486)) := Wk_a hW493 (show (-2147483648 : Int) ≤ r486 by omega) (show r486 ≤ (2147483647 : Int) by omega)
          have hF578 := Fr_a (z := r486) (k := 17) (n := (nd).toNat) hF510 (by decide)
          obtain ⟨A576, eA576⟩ : ∃ q, q = uA A485 17 (nd).toNat (r486) := ⟨_, rfl⟩
          rw [← eA576]
          rw [← eA576] at hW577 hF578
          have q579 : A576 17 (nd).toNat = r486 := by rw [eA576]; exact uA_eq
          have hP580 : Pf nd A A576 := eA576 ▸ Pf_a hP511 (z := nd) (by omega) (by omega)
          have hS581 : Fx sr (sy) A A576 := eA576 ▸ Fx_n hS512 rfl
          have hV582 : Fx [14] (vi) A A576 := eA576 ▸ Fx_n hV513 rfl
          have sf583 : ND A576 (nd) (31) (r486) (0) (0) (0) (0) (0) := ND_a eA576 sf514
          have sf584 : wE A576 Vs sb (2 * 9 + 2) (r486) (nd2_468) (nd2_490) := wE_ag (by omega) (Sg_ne eA576 rfl) (Ag_st eA576 (by omega) (by omega)) a527
          have ec585 : ecn A576 (G484 31) = ec2_492 := (ecn_e ((congrFun eA576 15).trans (uA_ne (by decide)))).trans e502
          refine jx_ld (pc' := 224) (l' := L483) (st' := [.ref 66]) rfl (jl_aloadn gL483_0) ?_
          refine jx_vr (pc' := 227) (as := []) (st := []) rfl rfl rfl rfl ⟨rfl, rfl, Nat.le_of_ble_eq_true rfl⟩ rfl rfl (c_endLine (dd := d) (hd := by omega) (hW := hW577)  (ln := ln) (e_ln := show G484 9 = ln from ((hF494.1 9 rfl).trans ((hF471.1 9 rfl).trans ((hF453.1 9 rfl).trans (e_ln))))) (li := li) (e_li := show G484 3 = li from ((hF494.1 3 rfl).trans ((hF471.1 3 rfl).trans ((hF453.1 3 rfl).trans (e_li))))) (fk := fk2_488) (e_fk := show G484 16 = fk2_488 from (e498)) (tk0 := tk2_491) (e_tk0 := show G484 11 = tk2_491 from (e501))    (p_0 := by omega)) (fun o V' hq => ?_)
          obtain ⟨G586, A587, ln2_588, fk2_589, rfl, rfl, hW590, hF591, e592, e593, q594⟩ := hq
          have hF595 := Fr_tr hF578 hF591 (Fr_sub (by decide)) (Fr_sub (by decide))
          have hP596 := Pf_f hP580 hF591 (by decide)
          have hS597 := Fx_f hS581 hF591 (by decide)
          have hV598 := Fx_f hV582 hF591 (by decide)
          have sf599 : ND A587 (nd) (31) (r486) (0) (0) (0) (0) (0) := ND_ag (by omega) (Ag_fr hF591 (by decide)) sf583
          have sf600 : wE A587 Vs sb (2 * 9 + 2) (r486) (nd2_468) (nd2_490) := wE_ag (by omega) (Sg_fr hF591 (by decide)) (Ag_fr hF591 (by decide)) sf584
          have ec601 : ecn A587 (G586 31) = ec2_492 := (ecn_f (hF591.2 15 rfl) (hF591.1 31 rfl)).trans ec585
          have bln2_588 : (0 : Int) ≤ ln2_588 ∧ ln2_588 ≤ 3000 := e592 ▸ hW590.1 9
          have bfk2_589 : (0 : Int) ≤ fk2_589 ∧ fk2_589 ≤ 6 := e593 ▸ hW590.1 16
          refine .inl ⟨rfl, ?_⟩
          rcases q594 with ⟨a602, a603, a604, a605, a606⟩ | ⟨a607, a608⟩
          · have _q : True := trivial
            have b609 : (0 : Int) ≤ A 3 (ln2_588).toNat ∧ A 3 (ln2_588).toNat ≤ 3000 := hW.2 3 _
            have lt610 : ln2_588 < li → le < A 3 (ln2_588).toNat := fun hh => LT_nx (LT_ext (((hF591.1 3 rfl).trans ((hF494.1 3 rfl).trans ((hF471.1 3 rfl).trans (hF453.1 3 rfl))))) (((hF591.2 3 rfl).trans (((congrFun eA576 3).trans (uA_ne (by decide))).trans ((hF494.2 3 rfl).trans ((hF471.2 3 rfl).trans (hF453.2 3 rfl)))))) (((hF591.2 4 rfl).trans (((congrFun eA576 4).trans (uA_ne (by decide))).trans ((hF494.2 4 rfl).trans ((hF471.2 4 rfl).trans (hF453.2 4 rfl)))))) i_LT) (show G586 3 = li from ((hF591.1 3 rfl).trans ((hF494.1 3 rfl).trans ((hF471.1 3 rfl).trans ((hF453.1 3 rfl).trans (e_li)))))) (show A587 4 (ln).toNat = le from (congrFun ((hF591.2 4 rfl).trans (((congrFun eA576 4).trans (uA_ne (by decide))).trans ((hF494.2 4 rfl).trans ((hF471.2 4 rfl).trans (hF453.2 4 rfl))))) _).trans (e_le)) (show A587 3 (ln2_588).toNat = A 3 (ln2_588).toNat from (congrFun ((hF591.2 3 rfl).trans (((congrFun eA576 3).trans (uA_ne (by decide))).trans ((hF494.2 3 rfl).trans ((hF471.2 3 rfl).trans (hF453.2 3 rfl))))) _)) (show ln2_588 = ln + 1 by omega) (by omega) hh
            refine jx_ld (pc' := 228) (l' := L483) (st' := [.ref 66]) rfl (jl_aloadn gL483_0) ?_
            refine jr_get (pc' := 231) (i := 38) (v := .ref 88) rfl rfl (by decide) rfl rfl ?_
            refine jx_ld (pc' := 232) (l' := L483) (st' := [.int (i32 (nd)), .ref 88]) rfl (jl_iloadn gL483_2) ?_
            refine jx_ld (pc' := 233) (l' := L483) (st' := [.ref 66, .int (i32 (nd)), .ref 88]) rfl (jl_aloadn gL483_0) ?_
            refine jx_vr (pc' := 236) (as := []) (st := [.int (i32 (nd)), .ref 88]) rfl rfl rfl rfl ⟨rfl, rfl, Nat.le_of_ble_eq_true rfl⟩ rfl rfl (c_bad (dd := d) (hd := by omega) (hW := hW590)  (fk := fk2_589) (e_fk := show G586 16 = fk2_589 from (e593))    ) (fun o V' hq => ?_)
            obtain ⟨r611, rfl, rfl, b612, q613⟩ := hq
            refine .inr ⟨_, rfl, ?_⟩
            rcases q613 with ⟨rfl, a614⟩ | ⟨rfl, a615⟩
            · have _q : True := trivial
              exfalso
              omega
            · have _q : True := trivial
              refine jx_if_eq (pc' := 239) (tg := 243) rfl rfl rfl (by decide) (by decide) (fun h616 => ?_) (fun h616 => ?_)
              · have _q := h616
                refine jx_ld (pc' := 244) (l' := L483) (st' := [.ref 66, .int (i32 (nd)), .ref 88]) rfl (jl_aloadn gL483_0) ?_
                refine jx_ld (pc' := 245) (l' := L483) (st' := [.int (i32 (lv)), .ref 66, .int (i32 (nd)), .ref 88]) rfl (jl_iloadn gL483_1) ?_
                refine jx_ar (pc' := 246) (st' := [.int (i32 (1)), .int (i32 (lv)), .ref 66, .int (i32 (nd)), .ref 88]) rfl rfl rfl rfl ?_
                refine jx_add (pc' := 247) rfl rfl ?_
                refine jx_vr (pc' := 250) (as := [.int (i32 ((lv + 1)))]) (st := [.int (i32 (nd)), .ref 88]) rfl rfl rfl rfl ⟨rfl, rfl, Nat.le_of_ble_eq_true rfl⟩ rfl rfl (hP (dd := d) (hd := by omega) (hW := hW590) (lv := (lv + 1)) (at0 := at2_487) (ln := ln2_588) (e_ln := show G586 9 = ln2_588 from (e592)) (li := li) (e_li := show G586 3 = li from ((hF591.1 3 rfl).trans ((hF494.1 3 rfl).trans ((hF471.1 3 rfl).trans ((hF453.1 3 rfl).trans (e_li)))))) (fk := fk2_589) (e_fk := show G586 16 = fk2_589 from (e593)) (nd := nd2_490) (e_nd := show G586 31 = nd2_490 from ((hF591.1 31 rfl).trans (e500))) (sy := sy) (e_sy := show G586 19 = sy from ((hF591.1 19 rfl).trans ((hF494.1 19 rfl).trans ((hF471.1 19 rfl).trans ((hF453.1 19 rfl).trans (e_sy)))))) (na := na) (e_na := show G586 28 = na from ((hF591.1 28 rfl).trans ((hF494.1 28 rfl).trans ((hF471.1 28 rfl).trans ((hF453.1 28 rfl).trans (e_na)))))) (vi := vi) (e_vi := show G586 29 = vi from ((hF591.1 29 rfl).trans ((hF494.1 29 rfl).trans ((hF471.1 29 rfl).trans ((hF453.1 29 rfl).trans (e_vi)))))) (lf := A 3 (ln2_588).toNat) (e_lf := show A587 3 (ln2_588).toNat = A 3 (ln2_588).toNat from (congrFun ((hF591.2 3 rfl).trans (((congrFun eA576 3).trans (uA_ne (by decide))).trans ((hF494.2 3 rfl).trans ((hF471.2 3 rfl).trans (hF453.2 3 rfl))))) _)) (ac := at2_487) (e_ac := show G586 10 = at2_487 from ((hF591.1 10 rfl).trans (e497))) (ec := ec2_492) (e_ec := show ecn A587 (G586 31) = ec2_492 from ec601) (i_LT := (LT_ext (((hF591.1 3 rfl).trans ((hF494.1 3 rfl).trans ((hF471.1 3 rfl).trans (hF453.1 3 rfl))))) (((hF591.2 3 rfl).trans (((congrFun eA576 3).trans (uA_ne (by decide))).trans ((hF494.2 3 rfl).trans ((hF471.2 3 rfl).trans (hF453.2 3 rfl)))))) (((hF591.2 4 rfl).trans (((congrFun eA576 4).trans (uA_ne (by decide))).trans ((hF494.2 4 rfl).trans ((hF471.2 4 rfl).trans (hF453.2 4 rfl)))))) i_LT)) (i_SV := (SV_fx i_SV e_vi (show G586 29 = vi from ((hF591.1 29 rfl).trans ((hF494.1 29 rfl).trans ((hF471.1 29 rfl).trans ((hF453.1 29 rfl).trans (e_vi)))))) (by omega) hV598)) (i_PQ := (PQ_fx i_PQ hS597 (by omega) (hF595.2 29 rfl) (hF595.2 30 rfl))) (hvb := hvb) (h_lv := ⟨(by omega), (by omega)⟩)  (p_0 := by omega) (p_1 := by omega) (p_2 := by omega) (p_3 := by omega) (p_4 := by omega) (p_5 := by omega) (p_6 := by omega) (p_7 := by omega) (p_8 := by omega) (p_9 := by omega) (p_10 := by omega)) (fun o V' hq => ?_)
                obtain ⟨G617, A618, r619, ln2_620, at2_621, fk2_622, nd2_623, sy2_624, na2_625, vi2_626, lf2_627, ec2_628, rfl, rfl, hW629, hF630, hQ631, hQ632, hQ633, b634, e635, e636, e637, e638, e639, e640, e641, e642, e643, p644, p645, p646, p647, p648, p649, p650, p651, p652, q653⟩ := hq
                have hF654 := Fr_tr hF595 hF630 (Fr_sub (by decide)) (Fr_sub (by decide))
                have k655 : A618 17 (nd).toNat = r486 := (hQ631 17 _ rfl (by omega)).trans (show A587 17 (nd).toNat = r486 from (congrFun (hF591.2 17 rfl) _).trans (q579))
                have hP656 := Pf_tr hP596 hQ631 (by omega)
                have hS657 := Fx_tr hS597 hQ632 (by omega)
                have hV658 := Fx_tr hV598 hQ633 (by omega)
                have sf659 : ND A618 (nd) (31) (r486) (0) (0) (0) (0) (0) := ND_ag (by omega) (Ag_pf hQ631 (by omega)) sf599
                have sf660 : wE A618 Vs sb (2 * 9 + 2) (r486) (nd2_468) (nd2_490) := wE_ag (by omega) (Fx_su hQ632 (by omega)) (Ag_pf hQ631 (by omega)) sf600
                have bln2_620 : (0 : Int) ≤ ln2_620 ∧ ln2_620 ≤ 3000 := e635 ▸ hW629.1 9
                have bat2_621 : (0 : Int) ≤ at2_621 ∧ at2_621 ≤ 3002 := e636 ▸ hW629.1 10
                have bfk2_622 : (0 : Int) ≤ fk2_622 ∧ fk2_622 ≤ 6 := e637 ▸ hW629.1 16
                have bnd2_623 : (0 : Int) ≤ nd2_623 ∧ nd2_623 ≤ 6999 := e638 ▸ hW629.1 31
                have bsy2_624 : (0 : Int) ≤ sy2_624 ∧ sy2_624 ≤ 202 := e639 ▸ hW629.1 19
                have bna2_625 : (0 : Int) ≤ na2_625 ∧ na2_625 ≤ 200 := e640 ▸ hW629.1 28
                have bvi2_626 : (0 : Int) ≤ vi2_626 ∧ vi2_626 ≤ 202 := e641 ▸ hW629.1 29
                have blf2_627 : (0 : Int) ≤ lf2_627 ∧ lf2_627 ≤ 3000 := e642 ▸ hW629.2 3 _
                refine .inr ⟨_, rfl, ?_⟩
                rcases q653 with ⟨a661, a662⟩ | ⟨a663, a664, a665, a666, a667, a668, a669, a670, a671, a672⟩
                · have _q : True := trivial
                  refine jr_st (pc' := 251) (i := 21) (m := 7000) (z := nd) (y := r619) rfl (by decide) rfl (by decide) (by omega) (by omega) rfl ?_
                  have hW674 : Wk G617 (uA A618 21 (nd).toNat (r619)) := Wk_a hW629 (show (-2147483648 : Int) ≤ r619 by omega) (show r619 ≤ (2147483647 : Int) by omega)
                  have hF675 := Fr_a (z := r619) (k := 21) (n := (nd).toNat) hF654 (by decide)
                  obtain ⟨A673, eA673⟩ : ∃ q, q = uA A618 21 (nd).toNat (r619) := ⟨_, rfl⟩
                  rw [← eA673]
                  rw [← eA673] at hW674 hF675
                  have q676 : A673 21 (nd).toNat = r619 := by rw [eA673]; exact uA_eq
                  have hP677 : Pf nd A A673 := eA673 ▸ Pf_a hP656 (z := nd) (by omega) (by omega)
                  have hS678 : Fx sr (sy) A A673 := eA673 ▸ Fx_n hS657 rfl
                  have hV679 : Fx [14] (vi) A A673 := eA673 ▸ Fx_n hV658 rfl
                  have sf680 : ND A673 (nd) (31) (r486) (0) (0) (0) (r619) (0) := ND_f eA673 sf659
                  have sf681 : wE A673 Vs sb (2 * 9 + 2) (r486) (nd2_468) (nd2_490) := wE_ag (by omega) (Sg_ne eA673 rfl) (Ag_st eA673 (by omega) (by omega)) sf660
                  have ec682 : ecn A673 (G617 31) = ec2_628 := (ecn_e ((congrFun eA673 15).trans (uA_ne (by decide)))).trans e643
                  refine jx_ld (pc' := 252) (l' := L483) (st' := [.int (i32 (nd))]) rfl (jl_iloadn gL483_2) ?_
                  refine jx_rt (v := some (.int (i32 (nd)))) rfl rfl rfl rfl rfl rfl ?_
                  exact ⟨_, _, _, ln2_620, at2_621, fk2_622, nd2_623, sy2_624, na2_625, vi2_626, lf2_627, ec2_628, rfl, rfl, hW674, hF675, hP677, hS678, hV679, by omega, (e635), (e636), (e637), (e638), (e639), (e640), (e641), (congrFun ((congrFun eA673 3).trans (uA_ne (by decide))) _).trans (e642), ec682, by omega, by omega, by omega, by omega, by omega, by omega, by omega, by omega, by omega, by omega, by first | exact Or.inl (⟨by omega, by omega⟩)⟩
                · have _q : True := trivial
                  refine jr_st (pc' := 251) (i := 21) (m := 7000) (z := nd) (y := r619) rfl (by decide) rfl (by decide) (by omega) (by omega) rfl ?_
                  have hW684 : Wk G617 (uA A618 21 (nd).toNat (r619)) := Wk_a hW629 (show (-2147483648 : Int) ≤ r619 by omega) (show r619 ≤ (2147483647 : Int) by omega)
                  have hF685 := Fr_a (z := r619) (k := 21) (n := (nd).toNat) hF654 (by decide)
                  obtain ⟨A683, eA683⟩ : ∃ q, q = uA A618 21 (nd).toNat (r619) := ⟨_, rfl⟩
                  rw [← eA683]
                  rw [← eA683] at hW684 hF685
                  have q686 : A683 21 (nd).toNat = r619 := by rw [eA683]; exact uA_eq
                  have hP687 : Pf nd A A683 := eA683 ▸ Pf_a hP656 (z := nd) (by omega) (by omega)
                  have hS688 : Fx sr (sy) A A683 := eA683 ▸ Fx_n hS657 rfl
                  have hV689 : Fx [14] (vi) A A683 := eA683 ▸ Fx_n hV658 rfl
                  have sf690 : ND A683 (nd) (31) (r486) (0) (0) (0) (r619) (0) := ND_f eA683 sf659
                  have sf691 : wE A683 Vs sb (2 * 9 + 2) (r486) (nd2_468) (nd2_490) := wE_ag (by omega) (Sg_ne eA683 rfl) (Ag_st eA683 (by omega) (by omega)) sf660
                  have sf692 : wP A683 (sy2_624) pb (k) (Vs) (r619) (nd2_490) (nd2_623) (sy) (sy2_624) := wP_ag (Sg_ne eA683 rfl) (Qg_ne eA683 rfl) (by omega) (by omega) (Ax_ag (Ag_st eA683 (by omega) (by omega))) a669
                  have sf693 : NX A683 (r619) := NX_r eA683 (by decide) a670
                  have ec694 : ecn A683 (G617 31) = ec2_628 := (ecn_e ((congrFun eA683 15).trans (uA_ne (by decide)))).trans e643
                  refine jx_ld (pc' := 252) (l' := L483) (st' := [.int (i32 (nd))]) rfl (jl_iloadn gL483_2) ?_
                  refine jx_rt (v := some (.int (i32 (nd)))) rfl rfl rfl rfl rfl rfl ?_
                  exact ⟨_, _, _, ln2_620, at2_621, fk2_622, nd2_623, sy2_624, na2_625, vi2_626, lf2_627, ec2_628, rfl, rfl, hW684, hF685, hP687, hS688, hV689, by omega, (e635), (e636), (e637), (e638), (e639), (e640), (e641), (congrFun ((congrFun eA683 3).trans (uA_ne (by decide))) _).trans (e642), ec694, by omega, by omega, by omega, by omega, by omega, by omega, by omega, by omega, by omega, by omega, by first | exact Or.inr ((⟨by omega, by omega, by omega, by omega, by omega, by omega, by omega, (wS_while (u := nd2_490) sf690 (by omega) (by omega) (wE_sb (by omega) (wE_mono (by omega) (by omega) (by omega) sf691)) (wP_eq sf692 (by omega) rfl (by omega) (by omega) (by omega) (by omega) (by omega) (by omega))), (NX_nd sf690), by omega, by omega⟩))⟩
              · have _q := h616
                exact absurd h616 (by omega)
          · have _q : True := trivial
            refine jx_ld (pc' := 228) (l' := L483) (st' := [.ref 66]) rfl (jl_aloadn gL483_0) ?_
            refine jr_get (pc' := 231) (i := 38) (v := .ref 88) rfl rfl (by decide) rfl rfl ?_
            refine jx_ld (pc' := 232) (l' := L483) (st' := [.int (i32 (nd)), .ref 88]) rfl (jl_iloadn gL483_2) ?_
            refine jx_ld (pc' := 233) (l' := L483) (st' := [.ref 66, .int (i32 (nd)), .ref 88]) rfl (jl_aloadn gL483_0) ?_
            refine jx_vr (pc' := 236) (as := []) (st := [.int (i32 (nd)), .ref 88]) rfl rfl rfl rfl ⟨rfl, rfl, Nat.le_of_ble_eq_true rfl⟩ rfl rfl (c_bad (dd := d) (hd := by omega) (hW := hW590)  (fk := fk2_589) (e_fk := show G586 16 = fk2_589 from (e593))    ) (fun o V' hq => ?_)
            obtain ⟨r695, rfl, rfl, b696, q697⟩ := hq
            refine .inr ⟨_, rfl, ?_⟩
            rcases q697 with ⟨rfl, a698⟩ | ⟨rfl, a699⟩
            · have _q : True := trivial
              refine jx_if_eq (pc' := 239) (tg := 243) rfl rfl rfl (by decide) (by decide) (fun h700 => ?_) (fun h700 => ?_)
              · have _q := h700
                exact absurd h700 (by omega)
              · have _q := h700
                refine jx_ar (pc' := 240) (st' := [.int (i32 (0)), .int (i32 (nd)), .ref 88]) rfl rfl rfl rfl ?_
                refine jx_go (tg := 250) rfl rfl ?_
                refine jr_st (pc' := 251) (i := 21) (m := 7000) (z := nd) (y := 0) rfl (by decide) rfl (by decide) (by omega) (by omega) rfl ?_
                have hW702 : Wk G586 (uA A587 21 (nd).toNat (0)) := Wk_a hW590 (show (-2147483648 : Int) ≤ 0 by omega) (show 0 ≤ (2147483647 : Int) by omega)
                have hF703 := Fr_a (z := 0) (k := 21) (n := (nd).toNat) hF595 (by decide)
                obtain ⟨A701, eA701⟩ : ∃ q, q = uA A587 21 (nd).toNat (0) := ⟨_, rfl⟩
                rw [← eA701]
                rw [← eA701] at hW702 hF703
                have q704 : A701 21 (nd).toNat = 0 := by rw [eA701]; exact uA_eq
                have hP705 : Pf nd A A701 := eA701 ▸ Pf_a hP596 (z := nd) (by omega) (by omega)
                have hS706 : Fx sr (sy) A A701 := eA701 ▸ Fx_n hS597 rfl
                have hV707 : Fx [14] (vi) A A701 := eA701 ▸ Fx_n hV598 rfl
                have sf708 : ND A701 (nd) (31) (r486) (0) (0) (0) (0) (0) := ND_f eA701 sf599
                have sf709 : wE A701 Vs sb (2 * 9 + 2) (r486) (nd2_468) (nd2_490) := wE_ag (by omega) (Sg_ne eA701 rfl) (Ag_st eA701 (by omega) (by omega)) sf600
                have ec710 : ecn A701 (G586 31) = ec2_492 := (ecn_e ((congrFun eA701 15).trans (uA_ne (by decide)))).trans ec601
                refine jx_ld (pc' := 252) (l' := L483) (st' := [.int (i32 (nd))]) rfl (jl_iloadn gL483_2) ?_
                refine jx_rt (v := some (.int (i32 (nd)))) rfl rfl rfl rfl rfl rfl ?_
                exact ⟨_, _, _, ln2_588, at2_487, fk2_589, nd2_490, sy, na, vi, A 3 (ln2_588).toNat, ec2_492, rfl, rfl, hW702, hF703, hP705, hS706, hV707, by omega, (e592), ((hF591.1 10 rfl).trans (e497)), (e593), ((hF591.1 31 rfl).trans (e500)), ((hF591.1 19 rfl).trans ((hF494.1 19 rfl).trans ((hF471.1 19 rfl).trans ((hF453.1 19 rfl).trans (e_sy))))), ((hF591.1 28 rfl).trans ((hF494.1 28 rfl).trans ((hF471.1 28 rfl).trans ((hF453.1 28 rfl).trans (e_na))))), ((hF591.1 29 rfl).trans ((hF494.1 29 rfl).trans ((hF471.1 29 rfl).trans ((hF453.1 29 rfl).trans (e_vi))))), (congrFun (((congrFun eA701 3).trans (uA_ne (by decide))).trans ((hF591.2 3 rfl).trans (((congrFun eA576 3).trans (uA_ne (by decide))).trans ((hF494.2 3 rfl).trans ((hF471.2 3 rfl).trans (hF453.2 3 rfl)))))) _), ec710, by omega, by omega, by omega, by omega, by omega, by omega, by omega, by omega, by omega, by omega, by first | exact Or.inl (⟨by omega, by omega⟩)⟩
            · have _q : True := trivial
              exfalso
              omega
      · refine jx_swe (z := 7) (tg := 88) h8 rfl rfl rfl rfl ?_
        refine jx_ld (pc' := 89) (l' := L7) (st' := [.ref 66]) rfl (jl_aloadn gL7_0) ?_
        refine jx_ld (pc' := 90) (l' := L7) (st' := [.int (i32 (G 13)), .ref 66]) rfl (jl_iloadn gL7_3) ?_
        refine jx_ar (pc' := 92) (st' := [.int (i32 (7)), .int (i32 (G 13)), .ref 66]) rfl rfl rfl rfl ?_
        refine jx_icmp_ne (pc' := 95) (tg := 100) rfl rfl rfl (Int.le_trans (by decide : (-2147483648 : Int) ≤ -2147483648) b6.1) (Int.le_trans b6.2 (by decide : (2147483647 : Int) ≤ 2147483647)) (by decide) (by decide) (fun h711 => ?_) (fun h711 => ?_)
        · have _q := h711
          refine jx_ar (pc' := 102) (st' := [.int (i32 (21)), .ref 66]) rfl rfl rfl rfl ?_
          refine jx_ar (pc' := 103) (st' := [.int (i32 (0)), .int (i32 (21)), .ref 66]) rfl rfl rfl rfl ?_
          refine jx_ar (pc' := 104) (st' := [.int (i32 (0)), .int (i32 (0)), .int (i32 (21)), .ref 66]) rfl rfl rfl rfl ?_
          refine jx_ar (pc' := 105) (st' := [.int (i32 (0)), .int (i32 (0)), .int (i32 (0)), .int (i32 (21)), .ref 66]) rfl rfl rfl rfl ?_
          refine jx_ar (pc' := 106) (st' := [.int (i32 (0)), .int (i32 (0)), .int (i32 (0)), .int (i32 (0)), .int (i32 (21)), .ref 66]) rfl rfl rfl rfl ?_
          refine jx_vr (pc' := 109) (as := [.int (i32 (21)), .int (i32 (0)), .int (i32 (0)), .int (i32 (0)), .int (i32 (0))]) (st := []) rfl rfl rfl rfl ⟨rfl, rfl, Nat.le_of_ble_eq_true rfl⟩ rfl rfl (c_node_o (dd := d) (hd := by omega) (hW := hW) (kind := 21) (a := 0) (b := 0) (c := 0) (e := 0) (nd := nd) (e_nd := show G 31 = nd from (e_nd)) (ec := ec) (e_ec := show ecn A (G 31) = ec from e_ec)  (h_kind := ⟨(by decide), (by decide)⟩) (h_a := ⟨(by decide), (by decide)⟩) (h_b := ⟨(by decide), (by decide)⟩) (h_c := ⟨(by decide), (by decide)⟩) (h_e := ⟨(by decide), (by decide)⟩)  (p_0 := by omega) (p_1 := by omega) (p_2 := by omega)) (fun o V' hq => ?_)
          obtain ⟨G712, A713, nd2_714, ec2_715, rfl, rfl, hW716, hF717, hQ718, e719, e720, p721, p722, p723, -⟩ := hq
          have hF725 := Fr_tr hF0 hF717 (Fr_sub (by decide)) (Fr_sub (by decide))
          have hP726 := Pf_tr hP0 hQ718 (by omega)
          have hS727 := Fx_f hS0 hF717 (by decide)
          have hV728 := Fx_f hV0 hF717 (by decide)
          have bnd2_714 : (0 : Int) ≤ nd2_714 ∧ nd2_714 ≤ 6999 := e719 ▸ hW716.1 31
          refine .inr ⟨_, rfl, ?_⟩
          refine jx_ld (pc' := 110) (l' := jSto1 L7 2 (.int (i32 (nd)))) (st' := []) rfl rfl ?_
          obtain ⟨L729, eL729⟩ : ∃ q, q = jSto1 L7 2 (.int (i32 (nd))) := ⟨_, rfl⟩
          rw [← eL729]
          have gL729_0 : jGet L729 0 = some (.ref 66) := eL729 ▸ jg_ne (by decide) gL7_0 rfl
          have gL729_1 : jGet L729 1 = some (.int (i32 (lv))) := eL729 ▸ jg_ne (by decide) gL7_1 rfl
          have gL729_3 : jGet L729 3 = some (.int (i32 (G 13))) := eL729 ▸ jg_ne (by decide) gL7_3 rfl
          have gL729_2 : jGet L729 2 = some (.int (i32 (nd))) := eL729 ▸ jg_eq
          refine jx_ld (pc' := 111) (l' := L729) (st' := [.ref 66]) rfl (jl_aloadn gL729_0) ?_
          refine jx_vr (pc' := 114) (as := []) (st := []) rfl rfl rfl rfl ⟨rfl, rfl, Nat.le_of_ble_eq_true rfl⟩ rfl rfl (c_next (dd := d) (hd := by omega) (hW := hW716)  (ln := ln) (e_ln := show G712 9 = ln from ((hF717.1 9 rfl).trans (e_ln))) (le := le) (e_le := show A713 4 (ln).toNat = le from (congrFun (hF717.2 4 rfl) _).trans (e_le)) (at0 := at0) (e_at0 := show G712 10 = at0 from ((hF717.1 10 rfl).trans (e_at0)))    (p_0 := by omega)) (fun o V' hq => ?_)
          obtain ⟨G730, A731, at2_732, tk2_733, rfl, rfl, hW734, hF735, e736, e737, p738, p739, p740, -⟩ := hq
          have hF742 := Fr_tr hF725 hF735 (Fr_sub (by decide)) (Fr_sub (by decide))
          have hP743 := Pf_f hP726 hF735 (by decide)
          have hS744 := Fx_f hS727 hF735 (by decide)
          have hV745 := Fx_f hV728 hF735 (by decide)
          have sf746 : ND A731 (nd) (21) (0) (0) (0) (0) (0) (0) := ND_ag (by omega) (Ag_fr hF735 (by decide)) p723
          have ec747 : ecn A731 (G730 31) = ec2_715 := (ecn_f (hF735.2 15 rfl) (hF735.1 31 rfl)).trans e720
          have bat2_732 : (0 : Int) ≤ at2_732 ∧ at2_732 ≤ 3002 := e736 ▸ hW734.1 10
          have ztk2_733 := tz_b tk2_733
          have btk2_733 : (0 : Int) ≤ tk2_733 ∧ tk2_733 ≤ 5 := e737 ▸ hW734.1 11
          refine .inl ⟨rfl, ?_⟩
          have pz748 : at0 + tz tk2_733 ≤ at2_732 := by omega
          refine jx_ld (pc' := 115) (l' := L729) (st' := [.ref 66]) rfl (jl_aloadn gL729_0) ?_
          refine jx_vr (pc' := 118) (as := []) (st := []) rfl rfl rfl rfl ⟨rfl, rfl, Nat.le_of_ble_eq_true rfl⟩ rfl rfl (c_endLine (dd := d) (hd := by omega) (hW := hW734)  (ln := ln) (e_ln := show G730 9 = ln from ((hF735.1 9 rfl).trans ((hF717.1 9 rfl).trans (e_ln)))) (li := li) (e_li := show G730 3 = li from ((hF735.1 3 rfl).trans ((hF717.1 3 rfl).trans (e_li)))) (fk := fk) (e_fk := show G730 16 = fk from ((hF735.1 16 rfl).trans ((hF717.1 16 rfl).trans (e_fk)))) (tk0 := tk2_733) (e_tk0 := show G730 11 = tk2_733 from (e737))    (p_0 := by omega)) (fun o V' hq => ?_)
          obtain ⟨G749, A750, ln2_751, fk2_752, rfl, rfl, hW753, hF754, e755, e756, q757⟩ := hq
          have hF758 := Fr_tr hF742 hF754 (Fr_sub (by decide)) (Fr_sub (by decide))
          have hP759 := Pf_f hP743 hF754 (by decide)
          have hS760 := Fx_f hS744 hF754 (by decide)
          have hV761 := Fx_f hV745 hF754 (by decide)
          have sf762 : ND A750 (nd) (21) (0) (0) (0) (0) (0) (0) := ND_ag (by omega) (Ag_fr hF754 (by decide)) sf746
          have ec763 : ecn A750 (G749 31) = ec2_715 := (ecn_f (hF754.2 15 rfl) (hF754.1 31 rfl)).trans ec747
          have bln2_751 : (0 : Int) ≤ ln2_751 ∧ ln2_751 ≤ 3000 := e755 ▸ hW753.1 9
          have bfk2_752 : (0 : Int) ≤ fk2_752 ∧ fk2_752 ≤ 6 := e756 ▸ hW753.1 16
          refine .inl ⟨rfl, ?_⟩
          rcases q757 with ⟨a764, a765, a766, a767, a768⟩ | ⟨a769, a770⟩
          · have _q : True := trivial
            have b771 : (0 : Int) ≤ A 3 (ln2_751).toNat ∧ A 3 (ln2_751).toNat ≤ 3000 := hW.2 3 _
            have lt772 : ln2_751 < li → le < A 3 (ln2_751).toNat := fun hh => LT_nx (LT_ext (((hF754.1 3 rfl).trans ((hF735.1 3 rfl).trans (hF717.1 3 rfl)))) (((hF754.2 3 rfl).trans ((hF735.2 3 rfl).trans (hF717.2 3 rfl)))) (((hF754.2 4 rfl).trans ((hF735.2 4 rfl).trans (hF717.2 4 rfl)))) i_LT) (show G749 3 = li from ((hF754.1 3 rfl).trans ((hF735.1 3 rfl).trans ((hF717.1 3 rfl).trans (e_li))))) (show A750 4 (ln).toNat = le from (congrFun ((hF754.2 4 rfl).trans ((hF735.2 4 rfl).trans (hF717.2 4 rfl))) _).trans (e_le)) (show A750 3 (ln2_751).toNat = A 3 (ln2_751).toNat from (congrFun ((hF754.2 3 rfl).trans ((hF735.2 3 rfl).trans (hF717.2 3 rfl))) _)) (show ln2_751 = ln + 1 by omega) (by omega) hh
            refine jx_ld (pc' := 119) (l' := L729) (st' := [.int (i32 (nd))]) rfl (jl_iloadn gL729_2) ?_
            refine jx_rt (v := some (.int (i32 (nd)))) rfl rfl rfl rfl rfl rfl ?_
            exact ⟨_, _, _, ln2_751, at2_732, fk2_752, nd2_714, sy, na, vi, A 3 (ln2_751).toNat, ec2_715, rfl, rfl, hW753, hF758, hP759, hS760, hV761, by omega, (e755), ((hF754.1 10 rfl).trans (e736)), (e756), ((hF754.1 31 rfl).trans ((hF735.1 31 rfl).trans (e719))), ((hF754.1 19 rfl).trans ((hF735.1 19 rfl).trans ((hF717.1 19 rfl).trans (e_sy)))), ((hF754.1 28 rfl).trans ((hF735.1 28 rfl).trans ((hF717.1 28 rfl).trans (e_na)))), ((hF754.1 29 rfl).trans ((hF735.1 29 rfl).trans ((hF717.1 29 rfl).trans (e_vi)))), (congrFun ((hF754.2 3 rfl).trans ((hF735.2 3 rfl).trans (hF717.2 3 rfl))) _), ec763, by omega, by omega, by omega, by omega, by omega, by omega, by omega, by omega, by omega, by omega, by first | exact Or.inr ((⟨by omega, by omega, by omega, by omega, by omega, by omega, by omega, (wS_skip sf762 (by omega) (by omega)), (NX_nd sf762), by omega, by omega⟩))⟩
          · have _q : True := trivial
            refine jx_ld (pc' := 119) (l' := L729) (st' := [.int (i32 (nd))]) rfl (jl_iloadn gL729_2) ?_
            refine jx_rt (v := some (.int (i32 (nd)))) rfl rfl rfl rfl rfl rfl ?_
            exact ⟨_, _, _, ln2_751, at2_732, fk2_752, nd2_714, sy, na, vi, A 3 (ln2_751).toNat, ec2_715, rfl, rfl, hW753, hF758, hP759, hS760, hV761, by omega, (e755), ((hF754.1 10 rfl).trans (e736)), (e756), ((hF754.1 31 rfl).trans ((hF735.1 31 rfl).trans (e719))), ((hF754.1 19 rfl).trans ((hF735.1 19 rfl).trans ((hF717.1 19 rfl).trans (e_sy)))), ((hF754.1 28 rfl).trans ((hF735.1 28 rfl).trans ((hF717.1 28 rfl).trans (e_na)))), ((hF754.1 29 rfl).trans ((hF735.1 29 rfl).trans ((hF717.1 29 rfl).trans (e_vi)))), (congrFun ((hF754.2 3 rfl).trans ((hF735.2 3 rfl).trans (hF717.2 3 rfl))) _), ec763, by omega, by omega, by omega, by omega, by omega, by omega, by omega, by omega, by omega, by omega, by first | exact Or.inl (⟨by omega, by omega⟩)⟩
        · have _q := h711
          refine jx_ar (pc' := 97) (st' := [.int (i32 (20)), .ref 66]) rfl rfl rfl rfl ?_
          refine jx_go (tg := 102) rfl rfl ?_
          refine jx_ar (pc' := 103) (st' := [.int (i32 (0)), .int (i32 (20)), .ref 66]) rfl rfl rfl rfl ?_
          refine jx_ar (pc' := 104) (st' := [.int (i32 (0)), .int (i32 (0)), .int (i32 (20)), .ref 66]) rfl rfl rfl rfl ?_
          refine jx_ar (pc' := 105) (st' := [.int (i32 (0)), .int (i32 (0)), .int (i32 (0)), .int (i32 (20)), .ref 66]) rfl rfl rfl rfl ?_
          refine jx_ar (pc' := 106) (st' := [.int (i32 (0)), .int (i32 (0)), .int (i32 (0)), .int (i32 (0)), .int (i32 (20)), .ref 66]) rfl rfl rfl rfl ?_
          refine jx_vr (pc' := 109) (as := [.int (i32 (20)), .int (i32 (0)), .int (i32 (0)), .int (i32 (0)), .int (i32 (0))]) (st := []) rfl rfl rfl rfl ⟨rfl, rfl, Nat.le_of_ble_eq_true rfl⟩ rfl rfl (c_node_o (dd := d) (hd := by omega) (hW := hW) (kind := 20) (a := 0) (b := 0) (c := 0) (e := 0) (nd := nd) (e_nd := show G 31 = nd from (e_nd)) (ec := ec) (e_ec := show ecn A (G 31) = ec from e_ec)  (h_kind := ⟨(by decide), (by decide)⟩) (h_a := ⟨(by decide), (by decide)⟩) (h_b := ⟨(by decide), (by decide)⟩) (h_c := ⟨(by decide), (by decide)⟩) (h_e := ⟨(by decide), (by decide)⟩)  (p_0 := by omega) (p_1 := by omega) (p_2 := by omega)) (fun o V' hq => ?_)
          obtain ⟨G773, A774, nd2_775, ec2_776, rfl, rfl, hW777, hF778, hQ779, e780, e781, p782, p783, p784, -⟩ := hq
          have hF786 := Fr_tr hF0 hF778 (Fr_sub (by decide)) (Fr_sub (by decide))
          have hP787 := Pf_tr hP0 hQ779 (by omega)
          have hS788 := Fx_f hS0 hF778 (by decide)
          have hV789 := Fx_f hV0 hF778 (by decide)
          have bnd2_775 : (0 : Int) ≤ nd2_775 ∧ nd2_775 ≤ 6999 := e780 ▸ hW777.1 31
          refine .inr ⟨_, rfl, ?_⟩
          refine jx_ld (pc' := 110) (l' := jSto1 L7 2 (.int (i32 (nd)))) (st' := []) rfl rfl ?_
          obtain ⟨L790, eL790⟩ : ∃ q, q = jSto1 L7 2 (.int (i32 (nd))) := ⟨_, rfl⟩
          rw [← eL790]
          have gL790_0 : jGet L790 0 = some (.ref 66) := eL790 ▸ jg_ne (by decide) gL7_0 rfl
          have gL790_1 : jGet L790 1 = some (.int (i32 (lv))) := eL790 ▸ jg_ne (by decide) gL7_1 rfl
          have gL790_3 : jGet L790 3 = some (.int (i32 (G 13))) := eL790 ▸ jg_ne (by decide) gL7_3 rfl
          have gL790_2 : jGet L790 2 = some (.int (i32 (nd))) := eL790 ▸ jg_eq
          refine jx_ld (pc' := 111) (l' := L790) (st' := [.ref 66]) rfl (jl_aloadn gL790_0) ?_
          refine jx_vr (pc' := 114) (as := []) (st := []) rfl rfl rfl rfl ⟨rfl, rfl, Nat.le_of_ble_eq_true rfl⟩ rfl rfl (c_next (dd := d) (hd := by omega) (hW := hW777)  (ln := ln) (e_ln := show G773 9 = ln from ((hF778.1 9 rfl).trans (e_ln))) (le := le) (e_le := show A774 4 (ln).toNat = le from (congrFun (hF778.2 4 rfl) _).trans (e_le)) (at0 := at0) (e_at0 := show G773 10 = at0 from ((hF778.1 10 rfl).trans (e_at0)))    (p_0 := by omega)) (fun o V' hq => ?_)
          obtain ⟨G791, A792, at2_793, tk2_794, rfl, rfl, hW795, hF796, e797, e798, p799, p800, p801, -⟩ := hq
          have hF803 := Fr_tr hF786 hF796 (Fr_sub (by decide)) (Fr_sub (by decide))
          have hP804 := Pf_f hP787 hF796 (by decide)
          have hS805 := Fx_f hS788 hF796 (by decide)
          have hV806 := Fx_f hV789 hF796 (by decide)
          have sf807 : ND A792 (nd) (20) (0) (0) (0) (0) (0) (0) := ND_ag (by omega) (Ag_fr hF796 (by decide)) p784
          have ec808 : ecn A792 (G791 31) = ec2_776 := (ecn_f (hF796.2 15 rfl) (hF796.1 31 rfl)).trans e781
          have bat2_793 : (0 : Int) ≤ at2_793 ∧ at2_793 ≤ 3002 := e797 ▸ hW795.1 10
          have ztk2_794 := tz_b tk2_794
          have btk2_794 : (0 : Int) ≤ tk2_794 ∧ tk2_794 ≤ 5 := e798 ▸ hW795.1 11
          refine .inl ⟨rfl, ?_⟩
          have pz809 : at0 + tz tk2_794 ≤ at2_793 := by omega
          refine jx_ld (pc' := 115) (l' := L790) (st' := [.ref 66]) rfl (jl_aloadn gL790_0) ?_
          refine jx_vr (pc' := 118) (as := []) (st := []) rfl rfl rfl rfl ⟨rfl, rfl, Nat.le_of_ble_eq_true rfl⟩ rfl rfl (c_endLine (dd := d) (hd := by omega) (hW := hW795)  (ln := ln) (e_ln := show G791 9 = ln from ((hF796.1 9 rfl).trans ((hF778.1 9 rfl).trans (e_ln)))) (li := li) (e_li := show G791 3 = li from ((hF796.1 3 rfl).trans ((hF778.1 3 rfl).trans (e_li)))) (fk := fk) (e_fk := show G791 16 = fk from ((hF796.1 16 rfl).trans ((hF778.1 16 rfl).trans (e_fk)))) (tk0 := tk2_794) (e_tk0 := show G791 11 = tk2_794 from (e798))    (p_0 := by omega)) (fun o V' hq => ?_)
          obtain ⟨G810, A811, ln2_812, fk2_813, rfl, rfl, hW814, hF815, e816, e817, q818⟩ := hq
          have hF819 := Fr_tr hF803 hF815 (Fr_sub (by decide)) (Fr_sub (by decide))
          have hP820 := Pf_f hP804 hF815 (by decide)
          have hS821 := Fx_f hS805 hF815 (by decide)
          have hV822 := Fx_f hV806 hF815 (by decide)
          have sf823 : ND A811 (nd) (20) (0) (0) (0) (0) (0) (0) := ND_ag (by omega) (Ag_fr hF815 (by decide)) sf807
          have ec824 : ecn A811 (G810 31) = ec2_776 := (ecn_f (hF815.2 15 rfl) (hF815.1 31 rfl)).trans ec808
          have bln2_812 : (0 : Int) ≤ ln2_812 ∧ ln2_812 ≤ 3000 := e816 ▸ hW814.1 9
          have bfk2_813 : (0 : Int) ≤ fk2_813 ∧ fk2_813 ≤ 6 := e817 ▸ hW814.1 16
          refine .inl ⟨rfl, ?_⟩
          rcases q818 with ⟨a825, a826, a827, a828, a829⟩ | ⟨a830, a831⟩
          · have _q : True := trivial
            have b832 : (0 : Int) ≤ A 3 (ln2_812).toNat ∧ A 3 (ln2_812).toNat ≤ 3000 := hW.2 3 _
            have lt833 : ln2_812 < li → le < A 3 (ln2_812).toNat := fun hh => LT_nx (LT_ext (((hF815.1 3 rfl).trans ((hF796.1 3 rfl).trans (hF778.1 3 rfl)))) (((hF815.2 3 rfl).trans ((hF796.2 3 rfl).trans (hF778.2 3 rfl)))) (((hF815.2 4 rfl).trans ((hF796.2 4 rfl).trans (hF778.2 4 rfl)))) i_LT) (show G810 3 = li from ((hF815.1 3 rfl).trans ((hF796.1 3 rfl).trans ((hF778.1 3 rfl).trans (e_li))))) (show A811 4 (ln).toNat = le from (congrFun ((hF815.2 4 rfl).trans ((hF796.2 4 rfl).trans (hF778.2 4 rfl))) _).trans (e_le)) (show A811 3 (ln2_812).toNat = A 3 (ln2_812).toNat from (congrFun ((hF815.2 3 rfl).trans ((hF796.2 3 rfl).trans (hF778.2 3 rfl))) _)) (show ln2_812 = ln + 1 by omega) (by omega) hh
            refine jx_ld (pc' := 119) (l' := L790) (st' := [.int (i32 (nd))]) rfl (jl_iloadn gL790_2) ?_
            refine jx_rt (v := some (.int (i32 (nd)))) rfl rfl rfl rfl rfl rfl ?_
            exact ⟨_, _, _, ln2_812, at2_793, fk2_813, nd2_775, sy, na, vi, A 3 (ln2_812).toNat, ec2_776, rfl, rfl, hW814, hF819, hP820, hS821, hV822, by omega, (e816), ((hF815.1 10 rfl).trans (e797)), (e817), ((hF815.1 31 rfl).trans ((hF796.1 31 rfl).trans (e780))), ((hF815.1 19 rfl).trans ((hF796.1 19 rfl).trans ((hF778.1 19 rfl).trans (e_sy)))), ((hF815.1 28 rfl).trans ((hF796.1 28 rfl).trans ((hF778.1 28 rfl).trans (e_na)))), ((hF815.1 29 rfl).trans ((hF796.1 29 rfl).trans ((hF778.1 29 rfl).trans (e_vi)))), (congrFun ((hF815.2 3 rfl).trans ((hF796.2 3 rfl).trans (hF778.2 3 rfl))) _), ec824, by omega, by omega, by omega, by omega, by omega, by omega, by omega, by omega, by omega, by omega, by first | exact Or.inr ((⟨by omega, by omega, by omega, by omega, by omega, by omega, by omega, (wS_skip sf823 (by omega) (by omega)), (NX_nd sf823), by omega, by omega⟩))⟩
          · have _q : True := trivial
            refine jx_ld (pc' := 119) (l' := L790) (st' := [.int (i32 (nd))]) rfl (jl_iloadn gL790_2) ?_
            refine jx_rt (v := some (.int (i32 (nd)))) rfl rfl rfl rfl rfl rfl ?_
            exact ⟨_, _, _, ln2_812, at2_793, fk2_813, nd2_775, sy, na, vi, A 3 (ln2_812).toNat, ec2_776, rfl, rfl, hW814, hF819, hP820, hS821, hV822, by omega, (e816), ((hF815.1 10 rfl).trans (e797)), (e817), ((hF815.1 31 rfl).trans ((hF796.1 31 rfl).trans (e780))), ((hF815.1 19 rfl).trans ((hF796.1 19 rfl).trans ((hF778.1 19 rfl).trans (e_sy)))), ((hF815.1 28 rfl).trans ((hF796.1 28 rfl).trans ((hF778.1 28 rfl).trans (e_na)))), ((hF815.1 29 rfl).trans ((hF796.1 29 rfl).trans ((hF778.1 29 rfl).trans (e_vi)))), (congrFun ((hF815.2 3 rfl).trans ((hF796.2 3 rfl).trans (hF778.2 3 rfl))) _), ec824, by omega, by omega, by omega, by omega, by omega, by omega, by omega, by omega, by omega, by omega, by first | exact Or.inl (⟨by omega, by omega⟩)⟩
      · refine jx_swe (z := 8) (tg := 88) h8 rfl rfl rfl rfl ?_
        refine jx_ld (pc' := 89) (l' := L7) (st' := [.ref 66]) rfl (jl_aloadn gL7_0) ?_
        refine jx_ld (pc' := 90) (l' := L7) (st' := [.int (i32 (G 13)), .ref 66]) rfl (jl_iloadn gL7_3) ?_
        refine jx_ar (pc' := 92) (st' := [.int (i32 (7)), .int (i32 (G 13)), .ref 66]) rfl rfl rfl rfl ?_
        refine jx_icmp_ne (pc' := 95) (tg := 100) rfl rfl rfl (Int.le_trans (by decide : (-2147483648 : Int) ≤ -2147483648) b6.1) (Int.le_trans b6.2 (by decide : (2147483647 : Int) ≤ 2147483647)) (by decide) (by decide) (fun h834 => ?_) (fun h834 => ?_)
        · have _q := h834
          refine jx_ar (pc' := 102) (st' := [.int (i32 (21)), .ref 66]) rfl rfl rfl rfl ?_
          refine jx_ar (pc' := 103) (st' := [.int (i32 (0)), .int (i32 (21)), .ref 66]) rfl rfl rfl rfl ?_
          refine jx_ar (pc' := 104) (st' := [.int (i32 (0)), .int (i32 (0)), .int (i32 (21)), .ref 66]) rfl rfl rfl rfl ?_
          refine jx_ar (pc' := 105) (st' := [.int (i32 (0)), .int (i32 (0)), .int (i32 (0)), .int (i32 (21)), .ref 66]) rfl rfl rfl rfl ?_
          refine jx_ar (pc' := 106) (st' := [.int (i32 (0)), .int (i32 (0)), .int (i32 (0)), .int (i32 (0)), .int (i32 (21)), .ref 66]) rfl rfl rfl rfl ?_
          refine jx_vr (pc' := 109) (as := [.int (i32 (21)), .int (i32 (0)), .int (i32 (0)), .int (i32 (0)), .int (i32 (0))]) (st := []) rfl rfl rfl rfl ⟨rfl, rfl, Nat.le_of_ble_eq_true rfl⟩ rfl rfl (c_node_o (dd := d) (hd := by omega) (hW := hW) (kind := 21) (a := 0) (b := 0) (c := 0) (e := 0) (nd := nd) (e_nd := show G 31 = nd from (e_nd)) (ec := ec) (e_ec := show ecn A (G 31) = ec from e_ec)  (h_kind := ⟨(by decide), (by decide)⟩) (h_a := ⟨(by decide), (by decide)⟩) (h_b := ⟨(by decide), (by decide)⟩) (h_c := ⟨(by decide), (by decide)⟩) (h_e := ⟨(by decide), (by decide)⟩)  (p_0 := by omega) (p_1 := by omega) (p_2 := by omega)) (fun o V' hq => ?_)
          obtain ⟨G835, A836, nd2_837, ec2_838, rfl, rfl, hW839, hF840, hQ841, e842, e843, p844, p845, p846, -⟩ := hq
          have hF848 := Fr_tr hF0 hF840 (Fr_sub (by decide)) (Fr_sub (by decide))
          have hP849 := Pf_tr hP0 hQ841 (by omega)
          have hS850 := Fx_f hS0 hF840 (by decide)
          have hV851 := Fx_f hV0 hF840 (by decide)
          have bnd2_837 : (0 : Int) ≤ nd2_837 ∧ nd2_837 ≤ 6999 := e842 ▸ hW839.1 31
          refine .inr ⟨_, rfl, ?_⟩
          refine jx_ld (pc' := 110) (l' := jSto1 L7 2 (.int (i32 (nd)))) (st' := []) rfl rfl ?_
          obtain ⟨L852, eL852⟩ : ∃ q, q = jSto1 L7 2 (.int (i32 (nd))) := ⟨_, rfl⟩
          rw [← eL852]
          have gL852_0 : jGet L852 0 = some (.ref 66) := eL852 ▸ jg_ne (by decide) gL7_0 rfl
          have gL852_1 : jGet L852 1 = some (.int (i32 (lv))) := eL852 ▸ jg_ne (by decide) gL7_1 rfl
          have gL852_3 : jGet L852 3 = some (.int (i32 (G 13))) := eL852 ▸ jg_ne (by decide) gL7_3 rfl
          have gL852_2 : jGet L852 2 = some (.int (i32 (nd))) := eL852 ▸ jg_eq
          refine jx_ld (pc' := 111) (l' := L852) (st' := [.ref 66]) rfl (jl_aloadn gL852_0) ?_
          refine jx_vr (pc' := 114) (as := []) (st := []) rfl rfl rfl rfl ⟨rfl, rfl, Nat.le_of_ble_eq_true rfl⟩ rfl rfl (c_next (dd := d) (hd := by omega) (hW := hW839)  (ln := ln) (e_ln := show G835 9 = ln from ((hF840.1 9 rfl).trans (e_ln))) (le := le) (e_le := show A836 4 (ln).toNat = le from (congrFun (hF840.2 4 rfl) _).trans (e_le)) (at0 := at0) (e_at0 := show G835 10 = at0 from ((hF840.1 10 rfl).trans (e_at0)))    (p_0 := by omega)) (fun o V' hq => ?_)
          obtain ⟨G853, A854, at2_855, tk2_856, rfl, rfl, hW857, hF858, e859, e860, p861, p862, p863, -⟩ := hq
          have hF865 := Fr_tr hF848 hF858 (Fr_sub (by decide)) (Fr_sub (by decide))
          have hP866 := Pf_f hP849 hF858 (by decide)
          have hS867 := Fx_f hS850 hF858 (by decide)
          have hV868 := Fx_f hV851 hF858 (by decide)
          have sf869 : ND A854 (nd) (21) (0) (0) (0) (0) (0) (0) := ND_ag (by omega) (Ag_fr hF858 (by decide)) p846
          have ec870 : ecn A854 (G853 31) = ec2_838 := (ecn_f (hF858.2 15 rfl) (hF858.1 31 rfl)).trans e843
          have bat2_855 : (0 : Int) ≤ at2_855 ∧ at2_855 ≤ 3002 := e859 ▸ hW857.1 10
          have ztk2_856 := tz_b tk2_856
          have btk2_856 : (0 : Int) ≤ tk2_856 ∧ tk2_856 ≤ 5 := e860 ▸ hW857.1 11
          refine .inl ⟨rfl, ?_⟩
          have pz871 : at0 + tz tk2_856 ≤ at2_855 := by omega
          refine jx_ld (pc' := 115) (l' := L852) (st' := [.ref 66]) rfl (jl_aloadn gL852_0) ?_
          refine jx_vr (pc' := 118) (as := []) (st := []) rfl rfl rfl rfl ⟨rfl, rfl, Nat.le_of_ble_eq_true rfl⟩ rfl rfl (c_endLine (dd := d) (hd := by omega) (hW := hW857)  (ln := ln) (e_ln := show G853 9 = ln from ((hF858.1 9 rfl).trans ((hF840.1 9 rfl).trans (e_ln)))) (li := li) (e_li := show G853 3 = li from ((hF858.1 3 rfl).trans ((hF840.1 3 rfl).trans (e_li)))) (fk := fk) (e_fk := show G853 16 = fk from ((hF858.1 16 rfl).trans ((hF840.1 16 rfl).trans (e_fk)))) (tk0 := tk2_856) (e_tk0 := show G853 11 = tk2_856 from (e860))    (p_0 := by omega)) (fun o V' hq => ?_)
          obtain ⟨G872, A873, ln2_874, fk2_875, rfl, rfl, hW876, hF877, e878, e879, q880⟩ := hq
          have hF881 := Fr_tr hF865 hF877 (Fr_sub (by decide)) (Fr_sub (by decide))
          have hP882 := Pf_f hP866 hF877 (by decide)
          have hS883 := Fx_f hS867 hF877 (by decide)
          have hV884 := Fx_f hV868 hF877 (by decide)
          have sf885 : ND A873 (nd) (21) (0) (0) (0) (0) (0) (0) := ND_ag (by omega) (Ag_fr hF877 (by decide)) sf869
          have ec886 : ecn A873 (G872 31) = ec2_838 := (ecn_f (hF877.2 15 rfl) (hF877.1 31 rfl)).trans ec870
          have bln2_874 : (0 : Int) ≤ ln2_874 ∧ ln2_874 ≤ 3000 := e878 ▸ hW876.1 9
          have bfk2_875 : (0 : Int) ≤ fk2_875 ∧ fk2_875 ≤ 6 := e879 ▸ hW876.1 16
          refine .inl ⟨rfl, ?_⟩
          rcases q880 with ⟨a887, a888, a889, a890, a891⟩ | ⟨a892, a893⟩
          · have _q : True := trivial
            have b894 : (0 : Int) ≤ A 3 (ln2_874).toNat ∧ A 3 (ln2_874).toNat ≤ 3000 := hW.2 3 _
            have lt895 : ln2_874 < li → le < A 3 (ln2_874).toNat := fun hh => LT_nx (LT_ext (((hF877.1 3 rfl).trans ((hF858.1 3 rfl).trans (hF840.1 3 rfl)))) (((hF877.2 3 rfl).trans ((hF858.2 3 rfl).trans (hF840.2 3 rfl)))) (((hF877.2 4 rfl).trans ((hF858.2 4 rfl).trans (hF840.2 4 rfl)))) i_LT) (show G872 3 = li from ((hF877.1 3 rfl).trans ((hF858.1 3 rfl).trans ((hF840.1 3 rfl).trans (e_li))))) (show A873 4 (ln).toNat = le from (congrFun ((hF877.2 4 rfl).trans ((hF858.2 4 rfl).trans (hF840.2 4 rfl))) _).trans (e_le)) (show A873 3 (ln2_874).toNat = A 3 (ln2_874).toNat from (congrFun ((hF877.2 3 rfl).trans ((hF858.2 3 rfl).trans (hF840.2 3 rfl))) _)) (show ln2_874 = ln + 1 by omega) (by omega) hh
            refine jx_ld (pc' := 119) (l' := L852) (st' := [.int (i32 (nd))]) rfl (jl_iloadn gL852_2) ?_
            refine jx_rt (v := some (.int (i32 (nd)))) rfl rfl rfl rfl rfl rfl ?_
            exact ⟨_, _, _, ln2_874, at2_855, fk2_875, nd2_837, sy, na, vi, A 3 (ln2_874).toNat, ec2_838, rfl, rfl, hW876, hF881, hP882, hS883, hV884, by omega, (e878), ((hF877.1 10 rfl).trans (e859)), (e879), ((hF877.1 31 rfl).trans ((hF858.1 31 rfl).trans (e842))), ((hF877.1 19 rfl).trans ((hF858.1 19 rfl).trans ((hF840.1 19 rfl).trans (e_sy)))), ((hF877.1 28 rfl).trans ((hF858.1 28 rfl).trans ((hF840.1 28 rfl).trans (e_na)))), ((hF877.1 29 rfl).trans ((hF858.1 29 rfl).trans ((hF840.1 29 rfl).trans (e_vi)))), (congrFun ((hF877.2 3 rfl).trans ((hF858.2 3 rfl).trans (hF840.2 3 rfl))) _), ec886, by omega, by omega, by omega, by omega, by omega, by omega, by omega, by omega, by omega, by omega, by first | exact Or.inr ((⟨by omega, by omega, by omega, by omega, by omega, by omega, by omega, (wS_skip sf885 (by omega) (by omega)), (NX_nd sf885), by omega, by omega⟩))⟩
          · have _q : True := trivial
            refine jx_ld (pc' := 119) (l' := L852) (st' := [.int (i32 (nd))]) rfl (jl_iloadn gL852_2) ?_
            refine jx_rt (v := some (.int (i32 (nd)))) rfl rfl rfl rfl rfl rfl ?_
            exact ⟨_, _, _, ln2_874, at2_855, fk2_875, nd2_837, sy, na, vi, A 3 (ln2_874).toNat, ec2_838, rfl, rfl, hW876, hF881, hP882, hS883, hV884, by omega, (e878), ((hF877.1 10 rfl).trans (e859)), (e879), ((hF877.1 31 rfl).trans ((hF858.1 31 rfl).trans (e842))), ((hF877.1 19 rfl).trans ((hF858.1 19 rfl).trans ((hF840.1 19 rfl).trans (e_sy)))), ((hF877.1 28 rfl).trans ((hF858.1 28 rfl).trans ((hF840.1 28 rfl).trans (e_na)))), ((hF877.1 29 rfl).trans ((hF858.1 29 rfl).trans ((hF840.1 29 rfl).trans (e_vi)))), (congrFun ((hF877.2 3 rfl).trans ((hF858.2 3 rfl).trans (hF840.2 3 rfl))) _), ec886, by omega, by omega, by omega, by omega, by omega, by omega, by omega, by omega, by omega, by omega, by first | exact Or.inl (⟨by omega, by omega⟩)⟩
        · have _q := h834
          refine jx_ar (pc' := 97) (st' := [.int (i32 (20)), .ref 66]) rfl rfl rfl rfl ?_
          refine jx_go (tg := 102) rfl rfl ?_
          refine jx_ar (pc' := 103) (st' := [.int (i32 (0)), .int (i32 (20)), .ref 66]) rfl rfl rfl rfl ?_
          refine jx_ar (pc' := 104) (st' := [.int (i32 (0)), .int (i32 (0)), .int (i32 (20)), .ref 66]) rfl rfl rfl rfl ?_
          refine jx_ar (pc' := 105) (st' := [.int (i32 (0)), .int (i32 (0)), .int (i32 (0)), .int (i32 (20)), .ref 66]) rfl rfl rfl rfl ?_
          refine jx_ar (pc' := 106) (st' := [.int (i32 (0)), .int (i32 (0)), .int (i32 (0)), .int (i32 (0)), .int (i32 (20)), .ref 66]) rfl rfl rfl rfl ?_
          refine jx_vr (pc' := 109) (as := [.int (i32 (20)), .int (i32 (0)), .int (i32 (0)), .int (i32 (0)), .int (i32 (0))]) (st := []) rfl rfl rfl rfl ⟨rfl, rfl, Nat.le_of_ble_eq_true rfl⟩ rfl rfl (c_node_o (dd := d) (hd := by omega) (hW := hW) (kind := 20) (a := 0) (b := 0) (c := 0) (e := 0) (nd := nd) (e_nd := show G 31 = nd from (e_nd)) (ec := ec) (e_ec := show ecn A (G 31) = ec from e_ec)  (h_kind := ⟨(by decide), (by decide)⟩) (h_a := ⟨(by decide), (by decide)⟩) (h_b := ⟨(by decide), (by decide)⟩) (h_c := ⟨(by decide), (by decide)⟩) (h_e := ⟨(by decide), (by decide)⟩)  (p_0 := by omega) (p_1 := by omega) (p_2 := by omega)) (fun o V' hq => ?_)
          obtain ⟨G896, A897, nd2_898, ec2_899, rfl, rfl, hW900, hF901, hQ902, e903, e904, p905, p906, p907, -⟩ := hq
          have hF909 := Fr_tr hF0 hF901 (Fr_sub (by decide)) (Fr_sub (by decide))
          have hP910 := Pf_tr hP0 hQ902 (by omega)
          have hS911 := Fx_f hS0 hF901 (by decide)
          have hV912 := Fx_f hV0 hF901 (by decide)
          have bnd2_898 : (0 : Int) ≤ nd2_898 ∧ nd2_898 ≤ 6999 := e903 ▸ hW900.1 31
          refine .inr ⟨_, rfl, ?_⟩
          refine jx_ld (pc' := 110) (l' := jSto1 L7 2 (.int (i32 (nd)))) (st' := []) rfl rfl ?_
          obtain ⟨L913, eL913⟩ : ∃ q, q = jSto1 L7 2 (.int (i32 (nd))) := ⟨_, rfl⟩
          rw [← eL913]
          have gL913_0 : jGet L913 0 = some (.ref 66) := eL913 ▸ jg_ne (by decide) gL7_0 rfl
          have gL913_1 : jGet L913 1 = some (.int (i32 (lv))) := eL913 ▸ jg_ne (by decide) gL7_1 rfl
          have gL913_3 : jGet L913 3 = some (.int (i32 (G 13))) := eL913 ▸ jg_ne (by decide) gL7_3 rfl
          have gL913_2 : jGet L913 2 = some (.int (i32 (nd))) := eL913 ▸ jg_eq
          refine jx_ld (pc' := 111) (l' := L913) (st' := [.ref 66]) rfl (jl_aloadn gL913_0) ?_
          refine jx_vr (pc' := 114) (as := []) (st := []) rfl rfl rfl rfl ⟨rfl, rfl, Nat.le_of_ble_eq_true rfl⟩ rfl rfl (c_next (dd := d) (hd := by omega) (hW := hW900)  (ln := ln) (e_ln := show G896 9 = ln from ((hF901.1 9 rfl).trans (e_ln))) (le := le) (e_le := show A897 4 (ln).toNat = le from (congrFun (hF901.2 4 rfl) _).trans (e_le)) (at0 := at0) (e_at0 := show G896 10 = at0 from ((hF901.1 10 rfl).trans (e_at0)))    (p_0 := by omega)) (fun o V' hq => ?_)
          obtain ⟨G914, A915, at2_916, tk2_917, rfl, rfl, hW918, hF919, e920, e921, p922, p923, p924, -⟩ := hq
          have hF926 := Fr_tr hF909 hF919 (Fr_sub (by decide)) (Fr_sub (by decide))
          have hP927 := Pf_f hP910 hF919 (by decide)
          have hS928 := Fx_f hS911 hF919 (by decide)
          have hV929 := Fx_f hV912 hF919 (by decide)
          have sf930 : ND A915 (nd) (20) (0) (0) (0) (0) (0) (0) := ND_ag (by omega) (Ag_fr hF919 (by decide)) p907
          have ec931 : ecn A915 (G914 31) = ec2_899 := (ecn_f (hF919.2 15 rfl) (hF919.1 31 rfl)).trans e904
          have bat2_916 : (0 : Int) ≤ at2_916 ∧ at2_916 ≤ 3002 := e920 ▸ hW918.1 10
          have ztk2_917 := tz_b tk2_917
          have btk2_917 : (0 : Int) ≤ tk2_917 ∧ tk2_917 ≤ 5 := e921 ▸ hW918.1 11
          refine .inl ⟨rfl, ?_⟩
          have pz932 : at0 + tz tk2_917 ≤ at2_916 := by omega
          refine jx_ld (pc' := 115) (l' := L913) (st' := [.ref 66]) rfl (jl_aloadn gL913_0) ?_
          refine jx_vr (pc' := 118) (as := []) (st := []) rfl rfl rfl rfl ⟨rfl, rfl, Nat.le_of_ble_eq_true rfl⟩ rfl rfl (c_endLine (dd := d) (hd := by omega) (hW := hW918)  (ln := ln) (e_ln := show G914 9 = ln from ((hF919.1 9 rfl).trans ((hF901.1 9 rfl).trans (e_ln)))) (li := li) (e_li := show G914 3 = li from ((hF919.1 3 rfl).trans ((hF901.1 3 rfl).trans (e_li)))) (fk := fk) (e_fk := show G914 16 = fk from ((hF919.1 16 rfl).trans ((hF901.1 16 rfl).trans (e_fk)))) (tk0 := tk2_917) (e_tk0 := show G914 11 = tk2_917 from (e921))    (p_0 := by omega)) (fun o V' hq => ?_)
          obtain ⟨G933, A934, ln2_935, fk2_936, rfl, rfl, hW937, hF938, e939, e940, q941⟩ := hq
          have hF942 := Fr_tr hF926 hF938 (Fr_sub (by decide)) (Fr_sub (by decide))
          have hP943 := Pf_f hP927 hF938 (by decide)
          have hS944 := Fx_f hS928 hF938 (by decide)
          have hV945 := Fx_f hV929 hF938 (by decide)
          have sf946 : ND A934 (nd) (20) (0) (0) (0) (0) (0) (0) := ND_ag (by omega) (Ag_fr hF938 (by decide)) sf930
          have ec947 : ecn A934 (G933 31) = ec2_899 := (ecn_f (hF938.2 15 rfl) (hF938.1 31 rfl)).trans ec931
          have bln2_935 : (0 : Int) ≤ ln2_935 ∧ ln2_935 ≤ 3000 := e939 ▸ hW937.1 9
          have bfk2_936 : (0 : Int) ≤ fk2_936 ∧ fk2_936 ≤ 6 := e940 ▸ hW937.1 16
          refine .inl ⟨rfl, ?_⟩
          rcases q941 with ⟨a948, a949, a950, a951, a952⟩ | ⟨a953, a954⟩
          · have _q : True := trivial
            have b955 : (0 : Int) ≤ A 3 (ln2_935).toNat ∧ A 3 (ln2_935).toNat ≤ 3000 := hW.2 3 _
            have lt956 : ln2_935 < li → le < A 3 (ln2_935).toNat := fun hh => LT_nx (LT_ext (((hF938.1 3 rfl).trans ((hF919.1 3 rfl).trans (hF901.1 3 rfl)))) (((hF938.2 3 rfl).trans ((hF919.2 3 rfl).trans (hF901.2 3 rfl)))) (((hF938.2 4 rfl).trans ((hF919.2 4 rfl).trans (hF901.2 4 rfl)))) i_LT) (show G933 3 = li from ((hF938.1 3 rfl).trans ((hF919.1 3 rfl).trans ((hF901.1 3 rfl).trans (e_li))))) (show A934 4 (ln).toNat = le from (congrFun ((hF938.2 4 rfl).trans ((hF919.2 4 rfl).trans (hF901.2 4 rfl))) _).trans (e_le)) (show A934 3 (ln2_935).toNat = A 3 (ln2_935).toNat from (congrFun ((hF938.2 3 rfl).trans ((hF919.2 3 rfl).trans (hF901.2 3 rfl))) _)) (show ln2_935 = ln + 1 by omega) (by omega) hh
            refine jx_ld (pc' := 119) (l' := L913) (st' := [.int (i32 (nd))]) rfl (jl_iloadn gL913_2) ?_
            refine jx_rt (v := some (.int (i32 (nd)))) rfl rfl rfl rfl rfl rfl ?_
            exact ⟨_, _, _, ln2_935, at2_916, fk2_936, nd2_898, sy, na, vi, A 3 (ln2_935).toNat, ec2_899, rfl, rfl, hW937, hF942, hP943, hS944, hV945, by omega, (e939), ((hF938.1 10 rfl).trans (e920)), (e940), ((hF938.1 31 rfl).trans ((hF919.1 31 rfl).trans (e903))), ((hF938.1 19 rfl).trans ((hF919.1 19 rfl).trans ((hF901.1 19 rfl).trans (e_sy)))), ((hF938.1 28 rfl).trans ((hF919.1 28 rfl).trans ((hF901.1 28 rfl).trans (e_na)))), ((hF938.1 29 rfl).trans ((hF919.1 29 rfl).trans ((hF901.1 29 rfl).trans (e_vi)))), (congrFun ((hF938.2 3 rfl).trans ((hF919.2 3 rfl).trans (hF901.2 3 rfl))) _), ec947, by omega, by omega, by omega, by omega, by omega, by omega, by omega, by omega, by omega, by omega, by first | exact Or.inr ((⟨by omega, by omega, by omega, by omega, by omega, by omega, by omega, (wS_skip sf946 (by omega) (by omega)), (NX_nd sf946), by omega, by omega⟩))⟩
          · have _q : True := trivial
            refine jx_ld (pc' := 119) (l' := L913) (st' := [.int (i32 (nd))]) rfl (jl_iloadn gL913_2) ?_
            refine jx_rt (v := some (.int (i32 (nd)))) rfl rfl rfl rfl rfl rfl ?_
            exact ⟨_, _, _, ln2_935, at2_916, fk2_936, nd2_898, sy, na, vi, A 3 (ln2_935).toNat, ec2_899, rfl, rfl, hW937, hF942, hP943, hS944, hV945, by omega, (e939), ((hF938.1 10 rfl).trans (e920)), (e940), ((hF938.1 31 rfl).trans ((hF919.1 31 rfl).trans (e903))), ((hF938.1 19 rfl).trans ((hF919.1 19 rfl).trans ((hF901.1 19 rfl).trans (e_sy)))), ((hF938.1 28 rfl).trans ((hF919.1 28 rfl).trans ((hF901.1 28 rfl).trans (e_na)))), ((hF938.1 29 rfl).trans ((hF919.1 29 rfl).trans ((hF901.1 29 rfl).trans (e_vi)))), (congrFun ((hF938.2 3 rfl).trans ((hF919.2 3 rfl).trans (hF901.2 3 rfl))) _), ec947, by omega, by omega, by omega, by omega, by omega, by omega, by omega, by omega, by omega, by omega, by first | exact Or.inl (⟨by omega, by omega⟩)⟩
      · refine jx_swt (tg := 259) (by omega) (by omega) rfl h8 rfl ?_
        refine jx_ld (pc' := 260) (l' := L7) (st' := [.ref 66]) rfl (jl_aloadn gL7_0) ?_
        refine jx_ar (pc' := 261) (st' := [.int (i32 (1)), .ref 66]) rfl rfl rfl rfl ?_
        refine jx_ld (pc' := 262) (l' := L7) (st' := [.ref 66, .int (i32 (1)), .ref 66]) rfl (jl_aloadn gL7_0) ?_
        have b957 : (-3000 : Int) ≤ G 12 ∧ G 12 ≤ 3002 := hW.1 12
        refine jr_get (pc' := 265) (i := 12) (v := .int (i32 (G 12))) rfl rfl (by decide) rfl rfl ?_
        refine jx_vr (pc' := 268) (as := [.int (i32 (1)), .int (i32 (G 12))]) (st := []) rfl rfl rfl rfl ⟨rfl, rfl, Nat.le_of_ble_eq_true rfl⟩ rfl rfl (c_fail (dd := d) (hd := by omega) (hW := hW) (kind := 1) (place := G 12) (fk := fk) (e_fk := show G 16 = fk from (e_fk))  (h_kind := ⟨(by decide), (by decide)⟩) (h_place := ⟨(Int.le_trans (by decide : (-2147483648 : Int) ≤ -3000) b957.1), (Int.le_trans b957.2 (by decide : (3002 : Int) ≤ 2147483647))⟩)  (p_0 := by omega) (p_1 := by omega)) (fun o V' hq => ?_)
        obtain ⟨G958, A959, fk2_960, rfl, rfl, hW961, hF962, e963, p964, -⟩ := hq
        have hF966 := Fr_tr hF0 hF962 (Fr_sub (by decide)) (Fr_sub (by decide))
        have hP967 := Pf_f hP0 hF962 (by decide)
        have hS968 := Fx_f hS0 hF962 (by decide)
        have hV969 := Fx_f hV0 hF962 (by decide)
        have ec970 : ecn A959 (G958 31) = ec := (ecn_f (hF962.2 15 rfl) (hF962.1 31 rfl)).trans e_ec
        have bfk2_960 : (0 : Int) ≤ fk2_960 ∧ fk2_960 ≤ 6 := e963 ▸ hW961.1 16
        refine .inl ⟨rfl, ?_⟩
        refine jx_ar (pc' := 269) (st' := [.int (i32 (0))]) rfl rfl rfl rfl ?_
        refine jx_rt (v := some (.int (i32 (0)))) rfl rfl rfl rfl rfl rfl ?_
        exact ⟨_, _, _, ln, at0, fk2_960, nd, sy, na, vi, A 3 (ln).toNat, ec, rfl, rfl, hW961, hF966, hP967, hS968, hV969, by omega, ((hF962.1 9 rfl).trans (e_ln)), ((hF962.1 10 rfl).trans (e_at0)), (e963), ((hF962.1 31 rfl).trans (e_nd)), ((hF962.1 19 rfl).trans (e_sy)), ((hF962.1 28 rfl).trans (e_na)), ((hF962.1 29 rfl).trans (e_vi)), (congrFun (hF962.2 3 rfl) _), ec970, by omega, by omega, by omega, by omega, by omega, by omega, by omega, by omega, by omega, by omega, by first | exact Or.inl (⟨by omega, by omega⟩)⟩
    · have _q := h5
      refine jx_ld (pc' := 24) (l' := L1) (st' := [.ref 66]) rfl (jl_aloadn gL1_0) ?_
      refine jx_ar (pc' := 25) (st' := [.int (i32 (1)), .ref 66]) rfl rfl rfl rfl ?_
      refine jx_ld (pc' := 26) (l' := L1) (st' := [.ref 66, .int (i32 (1)), .ref 66]) rfl (jl_aloadn gL1_0) ?_
      have b971 : (-3000 : Int) ≤ G 12 ∧ G 12 ≤ 3002 := hW.1 12
      refine jr_get (pc' := 29) (i := 12) (v := .int (i32 (G 12))) rfl rfl (by decide) rfl rfl ?_
      refine jx_vr (pc' := 32) (as := [.int (i32 (1)), .int (i32 (G 12))]) (st := []) rfl rfl rfl rfl ⟨rfl, rfl, Nat.le_of_ble_eq_true rfl⟩ rfl rfl (c_fail (dd := d) (hd := by omega) (hW := hW) (kind := 1) (place := G 12) (fk := fk) (e_fk := show G 16 = fk from (e_fk))  (h_kind := ⟨(by decide), (by decide)⟩) (h_place := ⟨(Int.le_trans (by decide : (-2147483648 : Int) ≤ -3000) b971.1), (Int.le_trans b971.2 (by decide : (3002 : Int) ≤ 2147483647))⟩)  (p_0 := by omega) (p_1 := by omega)) (fun o V' hq => ?_)
      obtain ⟨G972, A973, fk2_974, rfl, rfl, hW975, hF976, e977, p978, -⟩ := hq
      have hF980 := Fr_tr hF0 hF976 (Fr_sub (by decide)) (Fr_sub (by decide))
      have hP981 := Pf_f hP0 hF976 (by decide)
      have hS982 := Fx_f hS0 hF976 (by decide)
      have hV983 := Fx_f hV0 hF976 (by decide)
      have ec984 : ecn A973 (G972 31) = ec := (ecn_f (hF976.2 15 rfl) (hF976.1 31 rfl)).trans e_ec
      have bfk2_974 : (0 : Int) ≤ fk2_974 ∧ fk2_974 ≤ 6 := e977 ▸ hW975.1 16
      refine .inl ⟨rfl, ?_⟩
      refine jx_ar (pc' := 33) (st' := [.int (i32 (0))]) rfl rfl rfl rfl ?_
      refine jx_rt (v := some (.int (i32 (0)))) rfl rfl rfl rfl rfl rfl ?_
      exact ⟨_, _, _, ln, at0, fk2_974, nd, sy, na, vi, A 3 (ln).toNat, ec, rfl, rfl, hW975, hF980, hP981, hS982, hV983, by omega, ((hF976.1 9 rfl).trans (e_ln)), ((hF976.1 10 rfl).trans (e_at0)), (e977), ((hF976.1 31 rfl).trans (e_nd)), ((hF976.1 19 rfl).trans (e_sy)), ((hF976.1 28 rfl).trans (e_na)), ((hF976.1 29 rfl).trans (e_vi)), (congrFun (hF976.2 3 rfl) _), ec984, by omega, by omega, by omega, by omega, by omega, by omega, by omega, by omega, by omega, by omega, by first | exact Or.inl (⟨by omega, by omega⟩)⟩
  · have _q := h3
    refine jx_ld (pc' := 11) (l' := L1) (st' := [.ref 66]) rfl (jl_aloadn gL1_0) ?_
    refine jx_vr (pc' := 14) (as := []) (st := []) rfl rfl rfl rfl ⟨rfl, rfl, Nat.le_of_ble_eq_true rfl⟩ rfl rfl (c_readNamed_w (dd := d) (hd := by omega) (hW := hW)  (ln := ln) (e_ln := show G 9 = ln from (e_ln)) (le := le) (e_le := show A 4 (ln).toNat = le from (e_le)) (at0 := at0) (e_at0 := show G 10 = at0 from (e_at0)) (fk := fk) (e_fk := show G 16 = fk from (e_fk)) (op0 := op0) (e_op0 := show G 15 = op0 from (e_op0)) (nd := nd) (e_nd := show G 31 = nd from (e_nd)) (tk0 := tk0) (e_tk0 := show G 11 = tk0 from (e_tk0)) (li := li) (e_li := show G 3 = li from (e_li)) (ec := ec) (e_ec := show ecn A (G 31) = ec from e_ec) (i_SV := (SV_fx i_SV e_vi (show G 29 = vi from (e_vi)) (by omega) hV0)) (i_PQ := (PQ_fx i_PQ hS0 (by omega) (hF0.2 29 rfl) (hF0.2 30 rfl)))   (p_0 := by omega) (p_1 := by omega) (p_2 := by omega) (p_3 := by omega) (p_4 := by omega) (p_5 := by omega)) (fun o V' hq => ?_)
    obtain ⟨G985, A986, r987, at2_988, fk2_989, nd2_990, ln2_991, ec2_992, rfl, rfl, hW993, hF994, hQ995, b996, e997, e998, e999, e1000, e1001, p1002, p1003, p1004, p1005, p1006, q1007⟩ := hq
    have hF1008 := Fr_tr hF0 hF994 (Fr_sub (by decide)) (Fr_sub (by decide))
    have hP1009 := Pf_tr hP0 hQ995 (by omega)
    have hS1010 := Fx_f hS0 hF994 (by decide)
    have hV1011 := Fx_f hV0 hF994 (by decide)
    have bat2_988 : (0 : Int) ≤ at2_988 ∧ at2_988 ≤ 3002 := e997 ▸ hW993.1 10
    have bfk2_989 : (0 : Int) ≤ fk2_989 ∧ fk2_989 ≤ 6 := e998 ▸ hW993.1 16
    have bnd2_990 : (0 : Int) ≤ nd2_990 ∧ nd2_990 ≤ 6999 := e999 ▸ hW993.1 31
    have bln2_991 : (0 : Int) ≤ ln2_991 ∧ ln2_991 ≤ 3000 := e1000 ▸ hW993.1 9
    refine .inr ⟨_, rfl, ?_⟩
    rcases q1007 with ⟨a1012, a1013, a1014⟩ | ⟨a1015, a1016, a1017, a1018, a1019, a1020, a1021, a1022, a1023⟩
    · have _q : True := trivial
      refine jx_rt (v := some (.int (i32 (r987)))) rfl rfl rfl rfl rfl rfl ?_
      exact ⟨_, _, _, ln2_991, at2_988, fk2_989, nd2_990, sy, na, vi, A 3 (ln2_991).toNat, ec2_992, rfl, rfl, hW993, hF1008, hP1009, hS1010, hV1011, by omega, (e1000), (e997), (e998), (e999), ((hF994.1 19 rfl).trans (e_sy)), ((hF994.1 28 rfl).trans (e_na)), ((hF994.1 29 rfl).trans (e_vi)), (congrFun (hF994.2 3 rfl) _), e1001, by omega, by omega, by omega, by omega, by omega, by omega, by omega, by omega, by omega, by omega, by first | exact Or.inl (⟨by omega, by omega⟩)⟩
    · have _q : True := trivial
      have b1024 : (0 : Int) ≤ A 3 (ln2_991).toNat ∧ A 3 (ln2_991).toNat ≤ 3000 := hW.2 3 _
      have lt1025 : ln2_991 < li → le < A 3 (ln2_991).toNat := fun hh => LT_nx (LT_ext ((hF994.1 3 rfl)) ((hF994.2 3 rfl)) ((hF994.2 4 rfl)) i_LT) (show G985 3 = li from ((hF994.1 3 rfl).trans (e_li))) (show A986 4 (ln).toNat = le from (congrFun (hF994.2 4 rfl) _).trans (e_le)) (show A986 3 (ln2_991).toNat = A 3 (ln2_991).toNat from (congrFun (hF994.2 3 rfl) _)) (show ln2_991 = ln + 1 by omega) (by omega) hh
      refine jx_rt (v := some (.int (i32 (r987)))) rfl rfl rfl rfl rfl rfl ?_
      exact ⟨_, _, _, ln2_991, at2_988, fk2_989, nd2_990, sy, na, vi, A 3 (ln2_991).toNat, ec2_992, rfl, rfl, hW993, hF1008, hP1009, hS1010, hV1011, by omega, (e1000), (e997), (e998), (e999), ((hF994.1 19 rfl).trans (e_sy)), ((hF994.1 28 rfl).trans (e_na)), ((hF994.1 29 rfl).trans (e_vi)), (congrFun (hF994.2 3 rfl) _), e1001, by omega, by omega, by omega, by omega, by omega, by omega, by omega, by omega, by omega, by omega, by first | exact Or.inr ((⟨by omega, by omega, by omega, by omega, by omega, by omega, by omega, (wS_leaf (wL_eq a1020 (by omega) (by omega)) (by omega) (by omega)), a1021, by omega, by omega⟩))⟩
