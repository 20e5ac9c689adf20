def RPw (X : jX) (k : Nat) : Prop := ∀ ⦃dd : Nat⦄ ⦃Vs : Nat → Prop⦄ ⦃sb pb : Int⦄ (hvb : VB Vs sb) ⦃c0 c1 : jC⦄ ⦃G : Nat → Int⦄ ⦃A : Nat → Nat → Int⦄ ⦃T : jH⦄ ⦃lv : Int⦄ ⦃at0 : Int⦄ ⦃ln li fk nd sy na vi lf ac ec : Int⦄ (hd : 8 * k + 80 ≤ dd) (hW : Wk G A) (e_ln : G 9 = ln) (e_li : G 3 = li) (e_fk : G 16 = fk) (e_nd : G 31 = nd) (e_sy : G 19 = sy) (e_na : G 28 = na) (e_vi : G 29 = vi) (e_lf : A 3 (ln).toNat = lf) (e_ac : G 10 = ac) (e_ec : ecn A (G 31) = ec) (i_LT : LT G A) (i_SV : SV Vs sb G A) (i_PQ : PQ Vs sb pb G A) (h_lv : (-2147483648 : Int) ≤ lv ∧ lv ≤ 2147483647) (p_0 : 0 ≤ lv ∧ lv ≤ 40) (p_1 : 18 - lv ≤ (k : Int)) (p_2 : fk = 0) (p_3 : ln ≤ li) (p_4 : at0 < lf ∨ li ≤ ln) (p_5 : nd ≤ 2 * at0 + 32) (p_6 : sy ≤ na + 2) (p_7 : vi ≤ sy) (p_8 : at0 ≤ ac) (p_9 : -1 ≤ at0) (p_10 : sb ≤ sy), wk X dd 292 [.ref 66, .int (i32 lv)] (rV c0 c1 G A T) (fun o V_q => ∃ (G_q : Nat → Int) (A_q : Nat → Nat → Int) (r : Int) (ln2 : Int) (at2 : Int) (fk2 : Int) (nd2 : Int) (sy2 : Int) (na2 : Int) (vi2 : Int) (lf2 : Int) (ec2 : Int), V_q = rV c0 c1 G_q A_q T ∧ o = .inl (some (.int (i32 r))) ∧ Wk G_q A_q ∧ Fr [9, 10, 11, 12, 13, 14, 15, 16, 17, 18, 19, 28, 29, 31] [6, 7, 8, 9, 10, 11, 12, 14, 15, 16, 17, 18, 19, 20, 21, 22, 23, 24, 28] G A G_q A_q ∧ Pf nd A A_q ∧ Fx sr (sy) A A_q ∧ Fx [14] (vi) A A_q ∧ ((-2147483648 : Int) ≤ r ∧ r ≤ 2147483647) ∧ G_q 9 = ln2 ∧ G_q 10 = at2 ∧ G_q 16 = fk2 ∧ G_q 31 = nd2 ∧ G_q 19 = sy2 ∧ G_q 28 = na2 ∧ G_q 29 = vi2 ∧ A_q 3 (ln2).toNat = lf2 ∧ ecn A_q (G_q 31) = ec2 ∧ (at0 ≤ at2) ∧ (nd ≤ nd2) ∧ (sy ≤ sy2) ∧ (sy2 ≤ na2 + 2) ∧ (vi2 = vi) ∧ (0 ≤ r) ∧ (r ≤ 6999) ∧ (ln ≤ ln2) ∧ (ln2 ≤ li) ∧ (((1 ≤ fk2) ∧ (nd2 - nd ≤ 2 * at2 - 2 * at0 + 12)) ∨ ((fk2 = 0) ∧ (ln < ln2) ∧ (nd2 - nd ≤ 2 * at2 - 2 * at0) ∧ (at2 < lf2 ∨ li ≤ ln2) ∧ (nd ≤ r) ∧ (r < nd2) ∧ (wP A_q (sy2) pb (k) (Vs) (r) (nd) (nd2) (sy) (sy2)) ∧ (NX A_q (r)) ∧ (nd2 - nd + 5 * (ec2 - ec) ≤ 2 * at2 - 2 * at0) ∧ (NdM A_q (nd) (nd2) (sy)))))
set_option maxRecDepth 20000 in
set_option maxHeartbeats 4000000 in
theorem c_readChildren_w_at_6 {X : jX} {k : Nat} (hP : RPw X k) {zz : Int} {d : Nat} {Vs : Nat → Prop} {sb pb : Int} (hvb : VB Vs sb) {c0 c1 : jC} {G : Nat → Int} {A : Nat → Nat → Int} {T : jH} {n lv least mo : Int} {kk aa bb cc de xx : Int} {ln li at0 fk nd sy na vi lf ec : Int} (hd : 8 * k + 81 ≤ d + 1) (hW : Wk G A) (e_ln : G 9 = ln) (e_li : G 3 = li) (e_at0 : G 10 = at0) (e_fk : G 16 = fk) (e_nd : G 31 = nd) (e_sy : G 19 = sy) (e_na : G 28 = na) (e_vi : G 29 = vi) (e_lf : A 3 (ln).toNat = lf) (e_ec : ecn A (G 31) = ec) (i_LT : LT G A) (i_SV : SV Vs sb G A) (i_PQ : PQ Vs sb pb G A) (h_n : (-2147483648 : Int) ≤ n ∧ n ≤ 2147483647) (h_lv : (-2147483648 : Int) ≤ lv ∧ lv ≤ 2147483647) (h_least : (-2147483648 : Int) ≤ least ∧ least ≤ 2147483647) (h_mo : (-2147483648 : Int) ≤ mo ∧ mo ≤ 2147483647) (p_0 : 0 ≤ n ∧ n ≤ 6998) (p_1 : n < nd) (p_2 : 0 ≤ lv ∧ lv ≤ 15) (p_3 : 17 - lv ≤ (k : Int)) (p_4 : fk = 0) (p_5 : ln ≤ li) (p_6 : at0 < lf ∨ li ≤ ln) (p_7 : nd ≤ 2 * at0 + 32) (p_8 : sy ≤ na + 2) (p_9 : vi ≤ sy) (p_10 : 0 ≤ least ∧ least ≤ 2) (p_11 : 0 ≤ mo) (p_12 : zz ≤ n) (p_13 : nd = n + 1) (p_14 : sb ≤ sy) (p_15 : ND A (n) (kk) (aa) (bb) (cc) (de) (0) (xx)) (p_16 : NdO A (n) (n + 1) (sy) (n)) : ∀ (m : Nat) (L : jL) (Gx : Nat → Int) (Ax : Nat → Nat → Int) (last many ln1 at1 fk1 nd1 sy1 na1 vi1 lf1 ec1 : Int), (li - ln1).toNat = m → jGet L 0 = some (.ref 66) → jGet L 1 = some (.int (i32 (n))) → jGet L 2 = some (.int (i32 (lv))) → jGet L 3 = some (.int (i32 (least))) → jGet L 4 = some (.int (i32 (mo))) → jGet L 5 = some (.int (i32 last)) → jGet L 6 = some (.int (i32 many)) → Wk Gx Ax → Fr [9, 10, 11, 12, 13, 14, 15, 16, 17, 18, 19, 28, 29, 31] [6, 7, 8, 9, 10, 11, 12, 14, 15, 16, 17, 18, 19, 20, 21, 22, 23, 24, 28] G A Gx Ax → Pf zz A Ax → Px (n) (nd) A Ax → Fx sr (sy) A Ax → Fx [14] (vi) A Ax → Gx 9 = ln1 → Gx 10 = at1 → Gx 16 = fk1 → Gx 31 = nd1 → Gx 19 = sy1 → Gx 28 = na1 → Gx 29 = vi1 → Ax 3 (ln1).toNat = lf1 → ecn Ax (Gx 31) = ec1 → ((-2147483648 : Int) ≤ last ∧ last ≤ 2147483647) → ((-2147483648 : Int) ≤ many ∧ many ≤ 2147483647) → (fk1 = 0) → (at0 ≤ at1) → (nd ≤ nd1) → (sy ≤ sy1) → (sy1 ≤ na1 + 2) → (vi1 = vi) → (ln ≤ ln1) → (ln1 ≤ li) → (nd1 - nd ≤ 2 * at1 - 2 * at0) → (at1 < lf1 ∨ li ≤ ln1) → (0 ≤ last ∧ last ≤ 6998) → (last = 0 ∨ n < last) → (last < nd1) → (0 ≤ many ∧ many ≤ ln1) → (many ≤ mo) → (ND Ax (n) (kk) (aa) (bb) (cc) (de) (Ax 21 (n).toNat) (xx)) → (CL 0 Ax (sy1) pb (k) (Vs) (n) (last) (many) (n + 1) (nd1) (sy) (sy1)) → (nd1 - nd + 5 * (ec1 - ec) ≤ 2 * at1 - 2 * at0) → (NdO Ax (n) (n + 1) (sy) (n)) → (NdM Ax (nd) (nd1) (sy)) → wj X d jm296 (6, L, [], rV c0 c1 Gx Ax T) (fun o V_q => ∃ (G_q : Nat → Int) (A_q : Nat → Nat → Int) (ln2 : Int) (at2 : Int) (fk2 : Int) (nd2 : Int) (sy2 : Int) (na2 : Int) (vi2 : Int) (lf2 : Int) (mm : Int) (f2 : Int) (ec2 : Int), V_q = rV c0 c1 G_q A_q T ∧ o = .inl none ∧ Wk G_q A_q ∧ Fr [9, 10, 11, 12, 13, 14, 15, 16, 17, 18, 19, 28, 29, 31] [6, 7, 8, 9, 10, 11, 12, 14, 15, 16, 17, 18, 19, 20, 21, 22, 23, 24, 28] G A G_q A_q ∧ Pf zz A A_q ∧ Px (n) (nd) A A_q ∧ Fx sr (sy) A A_q ∧ Fx [14] (vi) A A_q ∧ G_q 9 = ln2 ∧ G_q 10 = at2 ∧ G_q 16 = fk2 ∧ G_q 31 = nd2 ∧ G_q 19 = sy2 ∧ G_q 28 = na2 ∧ G_q 29 = vi2 ∧ A_q 3 (ln2).toNat = lf2 ∧ A_q 18 (n).toNat = mm ∧ A_q 21 (n).toNat = f2 ∧ ecn A_q (G_q 31) = ec2 ∧ (at0 ≤ at2) ∧ (nd ≤ nd2) ∧ (sy ≤ sy2) ∧ (sy2 ≤ na2 + 2) ∧ (ln ≤ ln2) ∧ (ln2 ≤ li) ∧ (vi2 = vi) ∧ (((1 ≤ fk2) ∧ (nd2 - nd ≤ 2 * at2 - 2 * at0 + 12)) ∨ ((fk2 = 0) ∧ (nd2 - nd ≤ 2 * at2 - 2 * at0) ∧ (at2 < lf2 ∨ li ≤ ln2) ∧ (least ≤ mm) ∧ (mm ≤ mo) ∧ (ND A_q (n) (kk) (aa) (mm) (cc) (de) (f2) (xx)) ∧ (RL 0 A_q (sy2) pb (k) (Vs) (n) (mm) (n + 1) (nd2) (sy) (sy2)) ∧ (nd2 - nd + 5 * (ec2 - ec) ≤ 2 * at2 - 2 * at0) ∧ (NdO A_q (n) (n + 1) (sy) (n)) ∧ (NdM A_q (nd) (nd2) (sy))))) := by
  have hF0 : Fr [9, 10, 11, 12, 13, 14, 15, 16, 17, 18, 19, 28, 29, 31] [6, 7, 8, 9, 10, 11, 12, 14, 15, 16, 17, 18, 19, 20, 21, 22, 23, 24, 28] G A G A := Fr_rf
  have hP0 : Pf zz A A := Pf_rf
  have hX0 : Px (n) (nd) A A := Px_rf
  have hS0 : Fx sr (sy) A A := Fx_rf
  have hV0 : Fx [14] (vi) A A := Fx_rf
  have b_ln : (0 : Int) ≤ ln ∧ ln ≤ 3000 := e_ln ▸ hW.1 9
  have b_li : (0 : Int) ≤ li ∧ li ≤ 3000 := e_li ▸ hW.1 3
  have b_at0 : (0 : Int) ≤ at0 ∧ at0 ≤ 3002 := e_at0 ▸ hW.1 10
  have b_fk : (0 : Int) ≤ fk ∧ fk ≤ 6 := e_fk ▸ hW.1 16
  have b_nd : (0 : Int) ≤ nd ∧ nd ≤ 6999 := e_nd ▸ hW.1 31
  have b_sy : (0 : Int) ≤ sy ∧ sy ≤ 202 := e_sy ▸ hW.1 19
  have b_na : (0 : Int) ≤ na ∧ na ≤ 200 := e_na ▸ hW.1 28
  have b_vi : (0 : Int) ≤ vi ∧ vi ≤ 202 := e_vi ▸ hW.1 29
  have b_lf : (0 : Int) ≤ lf ∧ lf ≤ 3000 := e_lf ▸ hW.2 3 _
  intro m
  induction m using Nat.strongRecOn with
  | ind m ih6 =>
    intro L Gx Ax last many ln1 at1 fk1 nd1 sy1 na1 vi1 lf1 ec1 hm gL_0 gL_1 gL_2 gL_3 gL_4 gL_5 gL_6 hWx hFx hPx hXx hSx hVx ex_ln1 ex_at1 ex_fk1 ex_nd1 ex_sy1 ex_na1 ex_vi1 ex_lf1 ex_ec1 rx_last rx_many iv_0 iv_1 iv_2 iv_3 iv_4 iv_5 iv_6 iv_7 iv_8 iv_9 iv_10 iv_11 iv_12 iv_13 iv_14 iv_15 iv_16 iv_17 iv_18 iv_19
    have b_ln1 : (0 : Int) ≤ ln1 ∧ ln1 ≤ 3000 := ex_ln1 ▸ hWx.1 9
    have b_at1 : (0 : Int) ≤ at1 ∧ at1 ≤ 3002 := ex_at1 ▸ hWx.1 10
    have b_fk1 : (0 : Int) ≤ fk1 ∧ fk1 ≤ 6 := ex_fk1 ▸ hWx.1 16
    have b_nd1 : (0 : Int) ≤ nd1 ∧ nd1 ≤ 6999 := ex_nd1 ▸ hWx.1 31
    have b_sy1 : (0 : Int) ≤ sy1 ∧ sy1 ≤ 202 := ex_sy1 ▸ hWx.1 19
    have b_na1 : (0 : Int) ≤ na1 ∧ na1 ≤ 200 := ex_na1 ▸ hWx.1 28
    have b_vi1 : (0 : Int) ≤ vi1 ∧ vi1 ≤ 202 := ex_vi1 ▸ hWx.1 29
    refine jx_ld (pc_q := 7) (l_q := L) (st_q := [.ref 66]) rfl (jl_aloadn gL_0) ?_
    refine jx_ld (pc_q := 8) (l_q := L) (st_q := [.int (i32 (lv)), .ref 66]) rfl (jl_iloadn gL_2) ?_
    have b1 : (-1 : Int) ≤ A 5 (ln1).toNat ∧ A 5 (ln1).toNat ≤ 15 := hW.2 5 _
    refine jx_vr (pc_q := 11) (as := [.int (i32 (lv))]) (st := []) rfl rfl rfl rfl ⟨rfl, rfl, Nat.le_of_ble_eq_true rfl⟩ rfl rfl (c_isBelow (dd := d) (hd := by omega) (hW := hWx) (lv := lv) (ln := ln1) (e_ln := show Gx 9 = ln1 from (ex_ln1)) (li := li) (e_li := show Gx 3 = li from ((hFx.1 3 rfl).trans (e_li))) (fk := fk1) (e_fk := show Gx 16 = fk1 from (ex_fk1)) (ll := A 5 (ln1).toNat) (e_ll := show Ax 5 (ln1).toNat = A 5 (ln1).toNat from (congrFun (hFx.2 5 rfl) _))  (h_lv := ⟨(Int.le_trans (by decide : (-2147483648 : Int) ≤ -2147483648) h_lv.1), (Int.le_trans h_lv.2 (by decide : (2147483647 : Int) ≤ 2147483647))⟩)  (p_0 := by omega)) (fun o V_q hq => ?_)
    obtain ⟨G2, A3, r4, fk2_5, rfl, rfl, hW6, hF7, b8, e9, q10⟩ := hq
    have hF11 := Fr_tr hFx hF7 (Fr_sub (by decide)) (Fr_sub (by decide))
    have hP12 := Pf_f hPx hF7 (by decide)
    have hX13 := Px_f hXx hF7 (by decide)
    have hS14 := Fx_f hSx hF7 (by decide)
    have hV15 := Fx_f hVx hF7 (by decide)
    have sf16 : ND A3 (n) (kk) (aa) (bb) (cc) (de) (Ax 21 (n).toNat) (xx) := ND_ag (by omega) (Ag_fr hF7 (by decide)) iv_15
    have sf17 : CL 0 A3 (sy1) pb (k) (Vs) (n) (last) (many) (n + 1) (nd1) (sy) (sy1) := CL_ag (by omega) (by omega) (Sg_fr hF7 (by decide)) (Qg_fr hF7 (by decide)) (Ag_fr hF7 (by decide)) (congrFun (hF7.2 21 rfl) _) iv_16
    have sf18 : NdO A3 (n) (n + 1) (sy) (n) := NdO_f hF7 (by decide) iv_18
    have sf19 : NdM A3 (nd) (nd1) (sy) := NdM_f hF7 (by decide) iv_19
    have ec20 : ecn A3 (G2 31) = ec1 := (ecn_f (hF7.2 15 rfl) (hF7.1 31 rfl)).trans ex_ec1
    have bfk2_5 : (0 : Int) ≤ fk2_5 ∧ fk2_5 ≤ 6 := e9 ▸ hW6.1 16
    refine .inr ⟨_, rfl, ?_⟩
    rcases q10 with ⟨rfl, a21, a22, a23, a24⟩ | ⟨rfl, a25⟩ | ⟨rfl, a26, a27, a28⟩
    · have _q : True := trivial
      have b29 : (0 : Int) ≤ A 4 (ln1).toNat ∧ A 4 (ln1).toNat ≤ 3000 := hW.2 4 _
      have lt30 : lf1 < A 4 (ln1).toNat := LT_at (LT_ext (((hF7.1 3 rfl).trans (hFx.1 3 rfl))) (((hF7.2 3 rfl).trans (hFx.2 3 rfl))) (((hF7.2 4 rfl).trans (hFx.2 4 rfl))) i_LT) (show G2 3 = li from ((hF7.1 3 rfl).trans ((hFx.1 3 rfl).trans (e_li)))) (show A3 3 (ln1).toNat = lf1 from (congrFun (hF7.2 3 rfl) _).trans (ex_lf1)) (show A3 4 (ln1).toNat = A 4 (ln1).toNat from (congrFun ((hF7.2 4 rfl).trans (hFx.2 4 rfl)) _)) (by omega) (by omega)
      refine jx_if_eq (pc_q := 14) (tg := 98) rfl rfl rfl (by decide) (by decide) (fun h31 => ?_) (fun h31 => ?_)
      · have _q := h31
        exact absurd h31 (by omega)
      · have _q := h31
        refine jx_ld (pc_q := 16) (l_q := L) (st_q := [.int (i32 (many))]) rfl (jl_iload gL_6) ?_
        refine jx_ld (pc_q := 18) (l_q := L) (st_q := [.int (i32 (mo)), .int (i32 (many))]) rfl (jl_iload gL_4) ?_
        refine jx_icmp_ne (pc_q := 21) (tg := 46) rfl rfl rfl (Int.le_trans (by decide : (-2147483648 : Int) ≤ -2147483648) rx_many.1) (Int.le_trans rx_many.2 (by decide : (2147483647 : Int) ≤ 2147483647)) (Int.le_trans (by decide : (-2147483648 : Int) ≤ -2147483648) h_mo.1) (Int.le_trans h_mo.2 (by decide : (2147483647 : Int) ≤ 2147483647)) (fun h32 => ?_) (fun h32 => ?_)
        · have _q := h32
          refine jx_ld (pc_q := 47) (l_q := L) (st_q := [.ref 66]) rfl (jl_aloadn gL_0) ?_
          refine jx_ld (pc_q := 48) (l_q := L) (st_q := [.int (i32 (lv)), .ref 66]) rfl (jl_iloadn gL_2) ?_
          refine jx_ar (pc_q := 49) (st_q := [.int (i32 (1)), .int (i32 (lv)), .ref 66]) rfl rfl rfl rfl ?_
          refine jx_add (pc_q := 50) rfl rfl ?_
          refine jx_vr (pc_q := 53) (as := [.int (i32 ((lv + 1)))]) (st := []) rfl rfl rfl rfl ⟨rfl, rfl, Nat.le_of_ble_eq_true rfl⟩ rfl rfl (hP (dd := d) (hd := by omega) (hW := hW6) (lv := (lv + 1)) (at0 := at1) (ln := ln1) (e_ln := show G2 9 = ln1 from ((hF7.1 9 rfl).trans (ex_ln1))) (li := li) (e_li := show G2 3 = li from ((hF7.1 3 rfl).trans ((hFx.1 3 rfl).trans (e_li)))) (fk := fk2_5) (e_fk := show G2 16 = fk2_5 from (e9)) (nd := nd1) (e_nd := show G2 31 = nd1 from ((hF7.1 31 rfl).trans (ex_nd1))) (sy := sy1) (e_sy := show G2 19 = sy1 from ((hF7.1 19 rfl).trans (ex_sy1))) (na := na1) (e_na := show G2 28 = na1 from ((hF7.1 28 rfl).trans (ex_na1))) (vi := vi1) (e_vi := show G2 29 = vi1 from ((hF7.1 29 rfl).trans (ex_vi1))) (lf := lf1) (e_lf := show A3 3 (ln1).toNat = lf1 from (congrFun (hF7.2 3 rfl) _).trans (ex_lf1)) (ac := at1) (e_ac := show G2 10 = at1 from ((hF7.1 10 rfl).trans (ex_at1))) (ec := ec1) (e_ec := show ecn A3 (G2 31) = ec1 from ec20) (i_LT := (LT_ext (((hF7.1 3 rfl).trans (hFx.1 3 rfl))) (((hF7.2 3 rfl).trans (hFx.2 3 rfl))) (((hF7.2 4 rfl).trans (hFx.2 4 rfl))) i_LT)) (i_SV := (SV_fx i_SV e_vi (show G2 29 = vi1 from ((hF7.1 29 rfl).trans (ex_vi1))) (by omega) hV15)) (i_PQ := (PQ_fx i_PQ hS14 (by omega) (hF11.2 29 rfl) (hF11.2 30 rfl))) (hvb := hvb) (h_lv := ⟨(by omega), (by omega)⟩)  (p_0 := by omega) (p_1 := by omega) (p_2 := by omega) (p_3 := by omega) (p_4 := by omega) (p_5 := by omega) (p_6 := by omega) (p_7 := by omega) (p_8 := by omega) (p_9 := by omega) (p_10 := by omega)) (fun o V_q hq => ?_)
          obtain ⟨G33, A34, r35, ln2_36, at2_37, fk2_38, nd2_39, sy2_40, na2_41, vi2_42, lf2_43, ec2_44, rfl, rfl, hW45, hF46, hQ47, hQ48, hQ49, b50, e51, e52, e53, e54, e55, e56, e57, e58, e59, p60, p61, p62, p63, p64, p65, p66, p67, p68, q69⟩ := hq
          have hF70 := Fr_tr hF11 hF46 (Fr_sub (by decide)) (Fr_sub (by decide))
          have hP71 := Pf_tr hP12 hQ47 (by omega)
          have hX72 := Px_p hX13 hQ47 (by omega)
          have hS73 := Fx_tr hS14 hQ48 (by omega)
          have hV74 := Fx_tr hV15 hQ49 (by omega)
          have sf75 : ND A34 (n) (kk) (aa) (bb) (cc) (de) (Ax 21 (n).toNat) (xx) := ND_ag (by omega) (Ag_pf hQ47 (by omega)) sf16
          have sf76 : CL 0 A34 (sy1) pb (k) (Vs) (n) (last) (many) (n + 1) (nd1) (sy) (sy1) := CL_ag (by omega) (by omega) (Fx_su hQ48 (by omega)) (Qg_fr hF46 (by decide)) (Ag_pf hQ47 (by omega)) (hQ47 21 _ rfl (by omega)) sf17
          have sf77 : NdO A34 (n) (n + 1) (sy) (n) := NdO_pf hQ47 (by omega) (by omega) sf18
          have sf78 : NdM A34 (nd) (nd1) (sy) := NdM_pf hQ47 (by omega) (by omega) sf19
          have bln2_36 : (0 : Int) ≤ ln2_36 ∧ ln2_36 ≤ 3000 := e51 ▸ hW45.1 9
          have bat2_37 : (0 : Int) ≤ at2_37 ∧ at2_37 ≤ 3002 := e52 ▸ hW45.1 10
          have bfk2_38 : (0 : Int) ≤ fk2_38 ∧ fk2_38 ≤ 6 := e53 ▸ hW45.1 16
          have bnd2_39 : (0 : Int) ≤ nd2_39 ∧ nd2_39 ≤ 6999 := e54 ▸ hW45.1 31
          have bsy2_40 : (0 : Int) ≤ sy2_40 ∧ sy2_40 ≤ 202 := e55 ▸ hW45.1 19
          have bna2_41 : (0 : Int) ≤ na2_41 ∧ na2_41 ≤ 200 := e56 ▸ hW45.1 28
          have bvi2_42 : (0 : Int) ≤ vi2_42 ∧ vi2_42 ≤ 202 := e57 ▸ hW45.1 29
          have blf2_43 : (0 : Int) ≤ lf2_43 ∧ lf2_43 ≤ 3000 := e58 ▸ hW45.2 3 _
          refine .inr ⟨_, rfl, ?_⟩
          rcases q69 with ⟨a79, a80⟩ | ⟨a81, a82, a83, a84, a85, a86, a87, a88, a89, a90⟩
          · have _q : True := trivial
            refine jx_ld (pc_q := 55) (l_q := jSto1 L 7 (.int (i32 (r35)))) (st_q := []) rfl rfl ?_
            obtain ⟨L91, eL91⟩ : ∃ q, q = jSto1 L 7 (.int (i32 (r35))) := ⟨_, rfl⟩
            rw [← eL91]
            have gL91_0 : jGet L91 0 = some (.ref 66) := eL91 ▸ jg_ne (by decide) gL_0 rfl
            have gL91_1 : jGet L91 1 = some (.int (i32 (n))) := eL91 ▸ jg_ne (by decide) gL_1 rfl
            have gL91_2 : jGet L91 2 = some (.int (i32 (lv))) := eL91 ▸ jg_ne (by decide) gL_2 rfl
            have gL91_3 : jGet L91 3 = some (.int (i32 (least))) := eL91 ▸ jg_ne (by decide) gL_3 rfl
            have gL91_4 : jGet L91 4 = some (.int (i32 (mo))) := eL91 ▸ jg_ne (by decide) gL_4 rfl
            have gL91_5 : jGet L91 5 = some (.int (i32 (last))) := eL91 ▸ jg_ne (by decide) gL_5 rfl
            have gL91_6 : jGet L91 6 = some (.int (i32 (many))) := eL91 ▸ jg_ne (by decide) gL_6 rfl
            have gL91_7 : jGet L91 7 = some (.int (i32 (r35))) := eL91 ▸ jg_eq
            refine jx_ld (pc_q := 56) (l_q := L91) (st_q := [.ref 66]) rfl (jl_aloadn gL91_0) ?_
            refine jx_vr (pc_q := 59) (as := []) (st := []) rfl rfl rfl rfl ⟨rfl, rfl, Nat.le_of_ble_eq_true rfl⟩ rfl rfl (c_bad (dd := d) (hd := by omega) (hW := hW45)  (fk := fk2_38) (e_fk := show G33 16 = fk2_38 from (e53))    ) (fun o V_q hq => ?_)
            obtain ⟨r92, rfl, rfl, b93, q94⟩ := hq
            refine .inr ⟨_, rfl, ?_⟩
            rcases q94 with ⟨rfl, a95⟩ | ⟨rfl, a96⟩
            · have _q : True := trivial
              refine jx_if_eq (pc_q := 62) (tg := 63) rfl rfl rfl (by decide) (by decide) (fun h97 => ?_) (fun h97 => ?_)
              · have _q := h97
                exact absurd h97 (by omega)
              · have _q := h97
                refine jx_rt (v := none) rfl rfl rfl rfl rfl rfl ?_
                exact ⟨_, _, ln2_36, at2_37, fk2_38, nd2_39, sy2_40, na2_41, vi2_42, lf2_43, A34 18 (n).toNat, A34 21 (n).toNat, ec2_44, rfl, rfl, hW45, hF70, hP71, hX72, hS73, hV74, (e51), (e52), (e53), (e54), (e55), (e56), (e57), (e58), rfl, rfl, e59, by omega, by omega, by omega, by omega, by omega, by omega, by omega, by first | exact Or.inl (⟨by omega, by omega⟩)⟩
            · have _q : True := trivial
              exfalso
              omega
          · have _q : True := trivial
            refine jx_ld (pc_q := 55) (l_q := jSto1 L 7 (.int (i32 (r35)))) (st_q := []) rfl rfl ?_
            obtain ⟨L98, eL98⟩ : ∃ q, q = jSto1 L 7 (.int (i32 (r35))) := ⟨_, rfl⟩
            rw [← eL98]
            have gL98_0 : jGet L98 0 = some (.ref 66) := eL98 ▸ jg_ne (by decide) gL_0 rfl
            have gL98_1 : jGet L98 1 = some (.int (i32 (n))) := eL98 ▸ jg_ne (by decide) gL_1 rfl
            have gL98_2 : jGet L98 2 = some (.int (i32 (lv))) := eL98 ▸ jg_ne (by decide) gL_2 rfl
            have gL98_3 : jGet L98 3 = some (.int (i32 (least))) := eL98 ▸ jg_ne (by decide) gL_3 rfl
            have gL98_4 : jGet L98 4 = some (.int (i32 (mo))) := eL98 ▸ jg_ne (by decide) gL_4 rfl
            have gL98_5 : jGet L98 5 = some (.int (i32 (last))) := eL98 ▸ jg_ne (by decide) gL_5 rfl
            have gL98_6 : jGet L98 6 = some (.int (i32 (many))) := eL98 ▸ jg_ne (by decide) gL_6 rfl
            have gL98_7 : jGet L98 7 = some (.int (i32 (r35))) := eL98 ▸ jg_eq
            refine jx_ld (pc_q := 56) (l_q := L98) (st_q := [.ref 66]) rfl (jl_aloadn gL98_0) ?_
            refine jx_vr (pc_q := 59) (as := []) (st := []) rfl rfl rfl rfl ⟨rfl, rfl, Nat.le_of_ble_eq_true rfl⟩ rfl rfl (c_bad (dd := d) (hd := by omega) (hW := hW45)  (fk := fk2_38) (e_fk := show G33 16 = fk2_38 from (e53))    ) (fun o V_q hq => ?_)
            obtain ⟨r99, rfl, rfl, b100, q101⟩ := hq
            refine .inr ⟨_, rfl, ?_⟩
            rcases q101 with ⟨rfl, a102⟩ | ⟨rfl, a103⟩
            · have _q : True := trivial
              exfalso
              omega
            · have _q : True := trivial
              refine jx_if_eq (pc_q := 62) (tg := 63) rfl rfl rfl (by decide) (by decide) (fun h104 => ?_) (fun h104 => ?_)
              · have _q := h104
                refine jx_ld (pc_q := 65) (l_q := L98) (st_q := [.int (i32 (last))]) rfl (jl_iload gL98_5) ?_
                refine jx_if_ne (pc_q := 68) (tg := 79) rfl rfl rfl (Int.le_trans (by decide : (-2147483648 : Int) ≤ -2147483648) rx_last.1) (Int.le_trans rx_last.2 (by decide : (2147483647 : Int) ≤ 2147483647)) (fun h105 => ?_) (fun h105 => ?_)
                · have _q := h105
                  refine jx_ld (pc_q := 80) (l_q := L98) (st_q := [.ref 66]) rfl (jl_aloadn gL98_0) ?_
                  refine jr_get (pc_q := 83) (i := 39) (v := .ref 89) rfl rfl (by decide) rfl rfl ?_
                  refine jx_ld (pc_q := 85) (l_q := L98) (st_q := [.int (i32 (last)), .ref 89]) rfl (jl_iload gL98_5) ?_
                  refine jx_ld (pc_q := 87) (l_q := L98) (st_q := [.int (i32 (r35)), .int (i32 (last)), .ref 89]) rfl (jl_iload gL98_7) ?_
                  refine jr_st (pc_q := 88) (i := 22) (m := 7000) (z := last) (y := r35) rfl (by decide) rfl (by decide) (by omega) (by omega) rfl ?_
                  have hW107 : Wk G33 (uA A34 22 (last).toNat (r35)) := Wk_a hW45 (show (-2147483648 : Int) ≤ r35 by omega) (show r35 ≤ (2147483647 : Int) by omega)
                  have hF108 := Fr_a (z := r35) (k := 22) (n := (last).toNat) hF70 (by decide)
                  obtain ⟨A106, eA106⟩ : ∃ q, q = uA A34 22 (last).toNat (r35) := ⟨_, rfl⟩
                  rw [← eA106]
                  rw [← eA106] at hW107 hF108
                  have q109 : A106 22 (last).toNat = r35 := by rw [eA106]; exact uA_eq
                  have hP110 : Pf zz A A106 := eA106 ▸ Pf_a hP71 (z := last) (by omega) (by omega)
                  have hX111 : Px (n) (nd) A A106 := eA106 ▸ Px_a hX72 (z := last) (by omega) (by omega)
                  have hS112 : Fx sr (sy) A A106 := eA106 ▸ Fx_n hS73 rfl
                  have hV113 : Fx [14] (vi) A A106 := eA106 ▸ Fx_n hV74 rfl
                  have sf114 : ND A106 (n) (kk) (aa) (bb) (cc) (de) (Ax 21 (n).toNat) (xx) := ND_ag (by omega) (Ag_st eA106 (by omega) (by omega)) sf75
                  have sf115 : CL 0 A106 (sy2_40) pb (k) (Vs) (n) (r35) (many + 1) (n + 1) (nd2_39) (sy) (sy2_40) := CL_two eA106 (by omega) (by omega) (by omega) (by omega) (by omega) (show RQ 0 A34 (sy2_40) pb (k) (Vs) (r35) (nd1) (nd2_39) (sy1) (sy2_40) from wP_eq a87 (by omega) rfl rfl (by omega) rfl (by omega) rfl (by omega)) a88 (CL_sb (by omega) sf76)
                  have sf116 : NdO A106 (n) (n + 1) (sy) (n) := NdO_st eA106 (by decide) sf77
                  have sf117 : NdM A106 (nd) (nd1) (sy) := NdM_st eA106 (by decide) sf78
                  have sf118 : wP A106 (sy2_40) pb (k) (Vs) (r35) (nd1) (nd2_39) (sy1) (sy2_40) := wP_ag (Sg_ne eA106 rfl) (Qg_ne eA106 rfl) (by omega) (by omega) (Ax_ag (Ag_st eA106 (by omega) (by omega))) a87
                  have sf119 : NX A106 (r35) := NX_ag (by omega) (Ag_st eA106 (by omega) (by omega)) a88
                  have sf120 : NdM A106 (nd1) (nd2_39) (sy1) := NdM_st eA106 (by decide) a90
                  have ec121 : ecn A106 (G33 31) = ec2_44 := (ecn_e ((congrFun eA106 15).trans (uA_ne (by decide)))).trans e59
                  refine jx_ld (pc_q := 90) (l_q := L98) (st_q := [.int (i32 (r35))]) rfl (jl_iload gL98_7) ?_
                  refine jx_ld (pc_q := 92) (l_q := jSto1 L98 5 (.int (i32 (r35)))) (st_q := []) rfl rfl ?_
                  obtain ⟨L122, eL122⟩ : ∃ q, q = jSto1 L98 5 (.int (i32 (r35))) := ⟨_, rfl⟩
                  rw [← eL122]
                  have gL122_0 : jGet L122 0 = some (.ref 66) := eL122 ▸ jg_ne (by decide) gL98_0 rfl
                  have gL122_1 : jGet L122 1 = some (.int (i32 (n))) := eL122 ▸ jg_ne (by decide) gL98_1 rfl
                  have gL122_2 : jGet L122 2 = some (.int (i32 (lv))) := eL122 ▸ jg_ne (by decide) gL98_2 rfl
                  have gL122_3 : jGet L122 3 = some (.int (i32 (least))) := eL122 ▸ jg_ne (by decide) gL98_3 rfl
                  have gL122_4 : jGet L122 4 = some (.int (i32 (mo))) := eL122 ▸ jg_ne (by decide) gL98_4 rfl
                  have gL122_6 : jGet L122 6 = some (.int (i32 (many))) := eL122 ▸ jg_ne (by decide) gL98_6 rfl
                  have gL122_7 : jGet L122 7 = some (.int (i32 (r35))) := eL122 ▸ jg_ne (by decide) gL98_7 rfl
                  have gL122_5 : jGet L122 5 = some (.int (i32 (r35))) := eL122 ▸ jg_eq
                  refine jx_inc (pc_q := 95) (l_q := jSto1 L122 6 (.int (i32 ((many + (1)))))) (x := many) rfl gL122_6 (by decide) rfl rfl ?_
                  obtain ⟨L123, eL123⟩ : ∃ q, q = jSto1 L122 6 (.int (i32 ((many + (1))))) := ⟨_, rfl⟩
                  rw [← eL123]
                  have gL123_0 : jGet L123 0 = some (.ref 66) := eL123 ▸ jg_ne (by decide) gL122_0 rfl
                  have gL123_1 : jGet L123 1 = some (.int (i32 (n))) := eL123 ▸ jg_ne (by decide) gL122_1 rfl
                  have gL123_2 : jGet L123 2 = some (.int (i32 (lv))) := eL123 ▸ jg_ne (by decide) gL122_2 rfl
                  have gL123_3 : jGet L123 3 = some (.int (i32 (least))) := eL123 ▸ jg_ne (by decide) gL122_3 rfl
                  have gL123_4 : jGet L123 4 = some (.int (i32 (mo))) := eL123 ▸ jg_ne (by decide) gL122_4 rfl
                  have gL123_7 : jGet L123 7 = some (.int (i32 (r35))) := eL123 ▸ jg_ne (by decide) gL122_7 rfl
                  have gL123_5 : jGet L123 5 = some (.int (i32 (r35))) := eL123 ▸ jg_ne (by decide) gL122_5 rfl
                  have gL123_6 : jGet L123 6 = some (.int (i32 ((many + (1))))) := eL123 ▸ jg_eq
                  refine jx_go (tg := 6) rfl rfl ?_
                  exact ih6 _ (by omega) L123 G33 A106 (r35) ((many + (1))) (ln2_36) (at2_37) (fk2_38) (nd2_39) (sy2_40) (na2_41) (vi2_42) (lf2_43) (ec2_44) rfl gL123_0 gL123_1 gL123_2 gL123_3 gL123_4 gL123_5 gL123_6 hW107 hF108 hP110 hX111 hS112 hV113 ((e51)) ((e52)) ((e53)) ((e54)) ((e55)) ((e56)) ((e57)) ((congrFun ((congrFun eA106 3).trans (uA_ne (by decide))) _).trans (e58)) (ec121) (by omega) (by omega) (by omega) (by omega) (by omega) (by omega) (by omega) (by omega) (by omega) (by omega) (by omega) (by omega) (by omega) (by omega) (by omega) (by omega) (by omega) ((ND_sf sf114)) ((CL_eq (CL_sb (by omega) sf115) (by omega) (by omega) (by omega) (by omega) (by omega) (by omega))) (by omega) (sf116) ((NdM_w (NdM_app (sy := sy) sf117 sf120 (by omega) (by omega) (by omega)) (by omega) (by omega) (by omega)))
                · have _q := h105
                  refine jx_ld (pc_q := 69) (l_q := L98) (st_q := [.ref 66]) rfl (jl_aloadn gL98_0) ?_
                  refine jr_get (pc_q := 72) (i := 38) (v := .ref 88) rfl rfl (by decide) rfl rfl ?_
                  refine jx_ld (pc_q := 73) (l_q := L98) (st_q := [.int (i32 (n)), .ref 88]) rfl (jl_iloadn gL98_1) ?_
                  refine jx_ld (pc_q := 75) (l_q := L98) (st_q := [.int (i32 (r35)), .int (i32 (n)), .ref 88]) rfl (jl_iload gL98_7) ?_
                  refine jr_st (pc_q := 76) (i := 21) (m := 7000) (z := n) (y := r35) rfl (by decide) rfl (by decide) (by omega) (by omega) rfl ?_
                  have hW125 : Wk G33 (uA A34 21 (n).toNat (r35)) := Wk_a hW45 (show (-2147483648 : Int) ≤ r35 by omega) (show r35 ≤ (2147483647 : Int) by omega)
                  have hF126 := Fr_a (z := r35) (k := 21) (n := (n).toNat) hF70 (by decide)
                  obtain ⟨A124, eA124⟩ : ∃ q, q = uA A34 21 (n).toNat (r35) := ⟨_, rfl⟩
                  rw [← eA124]
                  rw [← eA124] at hW125 hF126
                  have q127 : A124 21 (n).toNat = r35 := by rw [eA124]; exact uA_eq
                  have hP128 : Pf zz A A124 := eA124 ▸ Pf_a hP71 (z := n) (by omega) (by omega)
                  have hX129 : Px (n) (nd) A A124 := eA124 ▸ Px_a hX72 (z := n) (by omega) (by omega)
                  have hS130 : Fx sr (sy) A A124 := eA124 ▸ Fx_n hS73 rfl
                  have hV131 : Fx [14] (vi) A A124 := eA124 ▸ Fx_n hV74 rfl
                  have sf132 : ND A124 (n) (kk) (aa) (bb) (cc) (de) (r35) (xx) := ND_f eA124 sf75
                  have sf133 : CL 0 A124 (sy2_40) pb (k) (Vs) (n) (r35) (many + 1) (n + 1) (nd2_39) (sy) (sy2_40) := CL_one eA124 (by omega) (by omega) (by omega) (by omega) (by omega) (by omega) (show RQ 0 A34 (sy2_40) pb (k) (Vs) (r35) (nd1) (nd2_39) (sy1) (sy2_40) from wP_eq a87 (by omega) rfl rfl (by omega) rfl (by omega) rfl (by omega)) a88 (CL_sb (by omega) sf76)
                  have sf134 : NdO A124 (n) (n + 1) (sy) (n) := NdO_st eA124 (by decide) sf77
                  have sf135 : NdM A124 (nd) (nd1) (sy) := NdM_st eA124 (by decide) sf78
                  have sf136 : wP A124 (sy2_40) pb (k) (Vs) (r35) (nd1) (nd2_39) (sy1) (sy2_40) := wP_ag (Sg_ne eA124 rfl) (Qg_ne eA124 rfl) (by omega) (by omega) (Ax_ag (Ag_st eA124 (by omega) (by omega))) a87
                  have sf137 : NX A124 (r35) := NX_r eA124 (by decide) a88
                  have sf138 : NdM A124 (nd1) (nd2_39) (sy1) := NdM_st eA124 (by decide) a90
                  have ec139 : ecn A124 (G33 31) = ec2_44 := (ecn_e ((congrFun eA124 15).trans (uA_ne (by decide)))).trans e59
                  refine jx_go (tg := 88) rfl rfl ?_
                  refine jx_ld (pc_q := 90) (l_q := L98) (st_q := [.int (i32 (r35))]) rfl (jl_iload gL98_7) ?_
                  refine jx_ld (pc_q := 92) (l_q := jSto1 L98 5 (.int (i32 (r35)))) (st_q := []) rfl rfl ?_
                  obtain ⟨L140, eL140⟩ : ∃ q, q = jSto1 L98 5 (.int (i32 (r35))) := ⟨_, rfl⟩
                  rw [← eL140]
                  have gL140_0 : jGet L140 0 = some (.ref 66) := eL140 ▸ jg_ne (by decide) gL98_0 rfl
                  have gL140_1 : jGet L140 1 = some (.int (i32 (n))) := eL140 ▸ jg_ne (by decide) gL98_1 rfl
                  have gL140_2 : jGet L140 2 = some (.int (i32 (lv))) := eL140 ▸ jg_ne (by decide) gL98_2 rfl
                  have gL140_3 : jGet L140 3 = some (.int (i32 (least))) := eL140 ▸ jg_ne (by decide) gL98_3 rfl
                  have gL140_4 : jGet L140 4 = some (.int (i32 (mo))) := eL140 ▸ jg_ne (by decide) gL98_4 rfl
                  have gL140_6 : jGet L140 6 = some (.int (i32 (many))) := eL140 ▸ jg_ne (by decide) gL98_6 rfl
                  have gL140_7 : jGet L140 7 = some (.int (i32 (r35))) := eL140 ▸ jg_ne (by decide) gL98_7 rfl
                  have gL140_5 : jGet L140 5 = some (.int (i32 (r35))) := eL140 ▸ jg_eq
                  refine jx_inc (pc_q := 95) (l_q := jSto1 L140 6 (.int (i32 ((many + (1)))))) (x := many) rfl gL140_6 (by decide) rfl rfl ?_
                  obtain ⟨L141, eL141⟩ : ∃ q, q = jSto1 L140 6 (.int (i32 ((many + (1))))) := ⟨_, rfl⟩
                  rw [← eL141]
                  have gL141_0 : jGet L141 0 = some (.ref 66) := eL141 ▸ jg_ne (by decide) gL140_0 rfl
                  have gL141_1 : jGet L141 1 = some (.int (i32 (n))) := eL141 ▸ jg_ne (by decide) gL140_1 rfl
                  have gL141_2 : jGet L141 2 = some (.int (i32 (lv))) := eL141 ▸ jg_ne (by decide) gL140_2 rfl
                  have gL141_3 : jGet L141 3 = some (.int (i32 (least))) := eL141 ▸ jg_ne (by decide) gL140_3 rfl
                  have gL141_4 : jGet L141 4 = some (.int (i32 (mo))) := eL141 ▸ jg_ne (by decide) gL140_4 rfl
                  have gL141_7 : jGet L141 7 = some (.int (i32 (r35))) := eL141 ▸ jg_ne (by decide) gL140_7 rfl
                  have gL141_5 : jGet L141 5 = some (.int (i32 (r35))) := eL141 ▸ jg_ne (by decide) gL140_5 rfl
                  have gL141_6 : jGet L141 6 = some (.int (i32 ((many + (1))))) := eL141 ▸ jg_eq
                  refine jx_go (tg := 6) rfl rfl ?_
                  exact ih6 _ (by omega) L141 G33 A124 (r35) ((many + (1))) (ln2_36) (at2_37) (fk2_38) (nd2_39) (sy2_40) (na2_41) (vi2_42) (lf2_43) (ec2_44) rfl gL141_0 gL141_1 gL141_2 gL141_3 gL141_4 gL141_5 gL141_6 hW125 hF126 hP128 hX129 hS130 hV131 ((e51)) ((e52)) ((e53)) ((e54)) ((e55)) ((e56)) ((e57)) ((congrFun ((congrFun eA124 3).trans (uA_ne (by decide))) _).trans (e58)) (ec139) (by omega) (by omega) (by omega) (by omega) (by omega) (by omega) (by omega) (by omega) (by omega) (by omega) (by omega) (by omega) (by omega) (by omega) (by omega) (by omega) (by omega) ((ND_sf sf132)) ((CL_eq (CL_sb (by omega) sf133) (by omega) (by omega) (by omega) (by omega) (by omega) (by omega))) (by omega) (sf134) ((NdM_w (NdM_app (sy := sy) sf135 sf138 (by omega) (by omega) (by omega)) (by omega) (by omega) (by omega)))
              · have _q := h104
                exact absurd h104 (by omega)
        · have _q := h32
          refine jx_ld (pc_q := 22) (l_q := L) (st_q := [.ref 66]) rfl (jl_aloadn gL_0) ?_
          refine jx_ar (pc_q := 23) (st_q := [.int (i32 (1)), .ref 66]) rfl rfl rfl rfl ?_
          refine jx_ld (pc_q := 24) (l_q := L) (st_q := [.ref 66, .int (i32 (1)), .ref 66]) rfl (jl_aloadn gL_0) ?_
          refine jr_get (pc_q := 27) (i := 6) (v := .ref 70) rfl rfl (by decide) rfl rfl ?_
          refine jx_ld (pc_q := 28) (l_q := L) (st_q := [.ref 66, .ref 70, .int (i32 (1)), .ref 66]) rfl (jl_aloadn gL_0) ?_
          refine jr_get (pc_q := 31) (i := 9) (v := .int (i32 (ln1))) rfl rfl (by decide) (rFv_eq (by decide) (show G2 9 = ln1 from ((hF7.1 9 rfl).trans (ex_ln1)))) rfl ?_
          refine jr_ldv (pc_q := 32) (i := 3) (m := 3001) (z := ln1) (y := lf1) rfl (by decide) rfl (by decide) (Int.le_trans (by decide : (0 : Int) ≤ 0) b_ln1.1) (Int.lt_of_le_of_lt b_ln1.2 (by decide : (3000 : Int) < ((3001 : Nat) : Int))) rfl (show A3 3 (ln1).toNat = lf1 from (congrFun (hF7.2 3 rfl) _).trans (ex_lf1)) ?_
          refine jx_ld (pc_q := 33) (l_q := L) (st_q := [.ref 66, .int (i32 (lf1)), .int (i32 (1)), .ref 66]) rfl (jl_aloadn gL_0) ?_
          refine jr_get (pc_q := 36) (i := 5) (v := .ref 69) rfl rfl (by decide) rfl rfl ?_
          refine jx_ld (pc_q := 37) (l_q := L) (st_q := [.ref 66, .ref 69, .int (i32 (lf1)), .int (i32 (1)), .ref 66]) rfl (jl_aloadn gL_0) ?_
          refine jr_get (pc_q := 40) (i := 9) (v := .int (i32 (ln1))) rfl rfl (by decide) (rFv_eq (by decide) (show G2 9 = ln1 from ((hF7.1 9 rfl).trans (ex_ln1)))) rfl ?_
          have b142 : (0 : Int) ≤ A 2 (ln1).toNat ∧ A 2 (ln1).toNat ≤ 3000 := hW.2 2 _
          refine jr_ldv (pc_q := 41) (i := 2) (m := 3001) (z := ln1) (y := A 2 (ln1).toNat) rfl (by decide) rfl (by decide) (Int.le_trans (by decide : (0 : Int) ≤ 0) b_ln1.1) (Int.lt_of_le_of_lt b_ln1.2 (by decide : (3000 : Int) < ((3001 : Nat) : Int))) rfl (show A3 2 (ln1).toNat = A 2 (ln1).toNat from (congrFun ((hF7.2 2 rfl).trans (hFx.2 2 rfl)) _)) ?_
          refine jx_sub (pc_q := 42) rfl rfl ?_
          refine jx_vr (pc_q := 45) (as := [.int (i32 (1)), .int (i32 ((lf1 - A 2 (ln1).toNat)))]) (st := []) rfl rfl rfl rfl ⟨rfl, rfl, Nat.le_of_ble_eq_true rfl⟩ rfl rfl (c_fail (dd := d) (hd := by omega) (hW := hW6) (kind := 1) (place := (lf1 - A 2 (ln1).toNat)) (fk := fk2_5) (e_fk := show G2 16 = fk2_5 from (e9))  (h_kind := ⟨(by decide), (by decide)⟩) (h_place := ⟨(by omega), (by omega)⟩)  (p_0 := by omega) (p_1 := by omega)) (fun o V_q hq => ?_)
          obtain ⟨G143, A144, fk2_145, rfl, rfl, hW146, hF147, e148, p149, -⟩ := hq
          have hF151 := Fr_tr hF11 hF147 (Fr_sub (by decide)) (Fr_sub (by decide))
          have hP152 := Pf_f hP12 hF147 (by decide)
          have hX153 := Px_f hX13 hF147 (by decide)
          have hS154 := Fx_f hS14 hF147 (by decide)
          have hV155 := Fx_f hV15 hF147 (by decide)
          have sf156 : ND A144 (n) (kk) (aa) (bb) (cc) (de) (Ax 21 (n).toNat) (xx) := ND_ag (by omega) (Ag_fr hF147 (by decide)) sf16
          have sf157 : CL 0 A144 (sy1) pb (k) (Vs) (n) (last) (many) (n + 1) (nd1) (sy) (sy1) := CL_ag (by omega) (by omega) (Sg_fr hF147 (by decide)) (Qg_fr hF147 (by decide)) (Ag_fr hF147 (by decide)) (congrFun (hF147.2 21 rfl) _) sf17
          have sf158 : NdO A144 (n) (n + 1) (sy) (n) := NdO_f hF147 (by decide) sf18
          have sf159 : NdM A144 (nd) (nd1) (sy) := NdM_f hF147 (by decide) sf19
          have ec160 : ecn A144 (G143 31) = ec1 := (ecn_f (hF147.2 15 rfl) (hF147.1 31 rfl)).trans ec20
          have bfk2_145 : (0 : Int) ≤ fk2_145 ∧ fk2_145 ≤ 6 := e148 ▸ hW146.1 16
          refine .inl ⟨rfl, ?_⟩
          refine jx_rt (v := none) rfl rfl rfl rfl rfl rfl ?_
          exact ⟨_, _, ln1, at1, fk2_145, nd1, sy1, na1, vi1, lf1, Ax 18 (n).toNat, Ax 21 (n).toNat, ec1, rfl, rfl, hW146, hF151, hP152, hX153, hS154, hV155, ((hF147.1 9 rfl).trans ((hF7.1 9 rfl).trans (ex_ln1))), ((hF147.1 10 rfl).trans ((hF7.1 10 rfl).trans (ex_at1))), (e148), ((hF147.1 31 rfl).trans ((hF7.1 31 rfl).trans (ex_nd1))), ((hF147.1 19 rfl).trans ((hF7.1 19 rfl).trans (ex_sy1))), ((hF147.1 28 rfl).trans ((hF7.1 28 rfl).trans (ex_na1))), ((hF147.1 29 rfl).trans ((hF7.1 29 rfl).trans (ex_vi1))), (congrFun ((hF147.2 3 rfl).trans (hF7.2 3 rfl)) _).trans (ex_lf1), (congrFun ((hF147.2 18 rfl).trans (hF7.2 18 rfl)) _), (congrFun ((hF147.2 21 rfl).trans (hF7.2 21 rfl)) _), ec160, by omega, by omega, by omega, by omega, by omega, by omega, by omega, by first | exact Or.inl (⟨by omega, by omega⟩)⟩
    · have _q : True := trivial
      refine jx_if_eq (pc_q := 14) (tg := 98) rfl rfl rfl (by decide) (by decide) (fun h161 => ?_) (fun h161 => ?_)
      · have _q := h161
        refine jx_ld (pc_q := 99) (l_q := L) (st_q := [.ref 66]) rfl (jl_aloadn gL_0) ?_
        refine jx_vr (pc_q := 102) (as := []) (st := []) rfl rfl rfl rfl ⟨rfl, rfl, Nat.le_of_ble_eq_true rfl⟩ rfl rfl (c_bad (dd := d) (hd := by omega) (hW := hW6)  (fk := fk2_5) (e_fk := show G2 16 = fk2_5 from (e9))    ) (fun o V_q hq => ?_)
        obtain ⟨r162, rfl, rfl, b163, q164⟩ := hq
        refine .inr ⟨_, rfl, ?_⟩
        rcases q164 with ⟨rfl, a165⟩ | ⟨rfl, a166⟩
        · have _q : True := trivial
          refine jx_if_ne (pc_q := 105) (tg := 119) rfl rfl rfl (by decide) (by decide) (fun h167 => ?_) (fun h167 => ?_)
          · have _q := h167
            refine jx_ld (pc_q := 120) (l_q := L) (st_q := [.ref 66]) rfl (jl_aloadn gL_0) ?_
            refine jr_get (pc_q := 123) (i := 35) (v := .ref 85) rfl rfl (by decide) rfl rfl ?_
            refine jx_ld (pc_q := 124) (l_q := L) (st_q := [.int (i32 (n)), .ref 85]) rfl (jl_iloadn gL_1) ?_
            refine jx_ld (pc_q := 126) (l_q := L) (st_q := [.int (i32 (many)), .int (i32 (n)), .ref 85]) rfl (jl_iload gL_6) ?_
            refine jr_st (pc_q := 127) (i := 18) (m := 7000) (z := n) (y := many) rfl (by decide) rfl (by decide) (by omega) (by omega) rfl ?_
            have hW169 : Wk G2 (uA A3 18 (n).toNat (many)) := Wk_a hW6 (show (-2147483648 : Int) ≤ many by omega) (show many ≤ (2147483647 : Int) by omega)
            have hF170 := Fr_a (z := many) (k := 18) (n := (n).toNat) hF11 (by decide)
            obtain ⟨A168, eA168⟩ : ∃ q, q = uA A3 18 (n).toNat (many) := ⟨_, rfl⟩
            rw [← eA168]
            rw [← eA168] at hW169 hF170
            have q171 : A168 18 (n).toNat = many := by rw [eA168]; exact uA_eq
            have hP172 : Pf zz A A168 := eA168 ▸ Pf_a hP12 (z := n) (by omega) (by omega)
            have hX173 : Px (n) (nd) A A168 := eA168 ▸ Px_a hX13 (z := n) (by omega) (by omega)
            have hS174 : Fx sr (sy) A A168 := eA168 ▸ Fx_n hS14 rfl
            have hV175 : Fx [14] (vi) A A168 := eA168 ▸ Fx_n hV15 rfl
            have sf176 : ND A168 (n) (kk) (aa) (many) (cc) (de) (Ax 21 (n).toNat) (xx) := ND_b eA168 sf16
            have sf177 : CL 0 A168 (sy1) pb (k) (Vs) (n) (last) (many) (n + 1) (nd1) (sy) (sy1) := CL_ag (by omega) (by omega) (Sg_ne eA168 rfl) (Qg_ne eA168 rfl) (Ag_st eA168 (by omega) (by omega)) ((congrFun ((congrFun eA168 21).trans (uA_ne (by decide))) _)) sf17
            have sf178 : NdO A168 (n) (n + 1) (sy) (n) := NdO_2 eA168 (by decide) (by omega) (by omega) sf18
            have sf179 : NdM A168 (nd) (nd1) (sy) := NdM_sx eA168 (by omega) (by omega) sf19
            have ec180 : ecn A168 (G2 31) = ec1 := (ecn_e ((congrFun eA168 15).trans (uA_ne (by decide)))).trans ec20
            refine jx_rt (v := none) rfl rfl rfl rfl rfl rfl ?_
            exact ⟨_, _, ln1, at1, fk2_5, nd1, sy1, na1, vi1, lf1, many, Ax 21 (n).toNat, ec1, rfl, rfl, hW169, hF170, hP172, hX173, hS174, hV175, ((hF7.1 9 rfl).trans (ex_ln1)), ((hF7.1 10 rfl).trans (ex_at1)), (e9), ((hF7.1 31 rfl).trans (ex_nd1)), ((hF7.1 19 rfl).trans (ex_sy1)), ((hF7.1 28 rfl).trans (ex_na1)), ((hF7.1 29 rfl).trans (ex_vi1)), (congrFun (((congrFun eA168 3).trans (uA_ne (by decide))).trans (hF7.2 3 rfl)) _).trans (ex_lf1), (q171), (congrFun (((congrFun eA168 21).trans (uA_ne (by decide))).trans (hF7.2 21 rfl)) _), ec180, by omega, by omega, by omega, by omega, by omega, by omega, by omega, by first | exact Or.inl (⟨by omega, by omega⟩)⟩
          · have _q := h167
            exact absurd h167 (by omega)
        · have _q : True := trivial
          exfalso
          omega
      · have _q := h161
        exact absurd h161 (by omega)
    · have _q : True := trivial
      refine jx_if_eq (pc_q := 14) (tg := 98) rfl rfl rfl (by decide) (by decide) (fun h181 => ?_) (fun h181 => ?_)
      · have _q := h181
        refine jx_ld (pc_q := 99) (l_q := L) (st_q := [.ref 66]) rfl (jl_aloadn gL_0) ?_
        refine jx_vr (pc_q := 102) (as := []) (st := []) rfl rfl rfl rfl ⟨rfl, rfl, Nat.le_of_ble_eq_true rfl⟩ rfl rfl (c_bad (dd := d) (hd := by omega) (hW := hW6)  (fk := fk2_5) (e_fk := show G2 16 = fk2_5 from (e9))    ) (fun o V_q hq => ?_)
        obtain ⟨r182, rfl, rfl, b183, q184⟩ := hq
        refine .inr ⟨_, rfl, ?_⟩
        rcases q184 with ⟨rfl, a185⟩ | ⟨rfl, a186⟩
        · have _q : True := trivial
          exfalso
          omega
        · have _q : True := trivial
          refine jx_if_ne (pc_q := 105) (tg := 119) rfl rfl rfl (by decide) (by decide) (fun h187 => ?_) (fun h187 => ?_)
          · have _q := h187
            exact absurd h187 (by omega)
          · have _q := h187
            refine jx_ld (pc_q := 107) (l_q := L) (st_q := [.int (i32 (many))]) rfl (jl_iload gL_6) ?_
            refine jx_ld (pc_q := 108) (l_q := L) (st_q := [.int (i32 (least)), .int (i32 (many))]) rfl (jl_iloadn gL_3) ?_
            refine jx_icmp_ge (pc_q := 111) (tg := 119) rfl rfl rfl (Int.le_trans (by decide : (-2147483648 : Int) ≤ -2147483648) rx_many.1) (Int.le_trans rx_many.2 (by decide : (2147483647 : Int) ≤ 2147483647)) (Int.le_trans (by decide : (-2147483648 : Int) ≤ -2147483648) h_least.1) (Int.le_trans h_least.2 (by decide : (2147483647 : Int) ≤ 2147483647)) (fun h188 => ?_) (fun h188 => ?_)
            · have _q := h188
              refine jx_ld (pc_q := 120) (l_q := L) (st_q := [.ref 66]) rfl (jl_aloadn gL_0) ?_
              refine jr_get (pc_q := 123) (i := 35) (v := .ref 85) rfl rfl (by decide) rfl rfl ?_
              refine jx_ld (pc_q := 124) (l_q := L) (st_q := [.int (i32 (n)), .ref 85]) rfl (jl_iloadn gL_1) ?_
              refine jx_ld (pc_q := 126) (l_q := L) (st_q := [.int (i32 (many)), .int (i32 (n)), .ref 85]) rfl (jl_iload gL_6) ?_
              refine jr_st (pc_q := 127) (i := 18) (m := 7000) (z := n) (y := many) rfl (by decide) rfl (by decide) (by omega) (by omega) rfl ?_
              have hW190 : Wk G2 (uA A3 18 (n).toNat (many)) := Wk_a hW6 (show (-2147483648 : Int) ≤ many by omega) (show many ≤ (2147483647 : Int) by omega)
              have hF191 := Fr_a (z := many) (k := 18) (n := (n).toNat) hF11 (by decide)
              obtain ⟨A189, eA189⟩ : ∃ q, q = uA A3 18 (n).toNat (many) := ⟨_, rfl⟩
              rw [← eA189]
              rw [← eA189] at hW190 hF191
              have q192 : A189 18 (n).toNat = many := by rw [eA189]; exact uA_eq
              have hP193 : Pf zz A A189 := eA189 ▸ Pf_a hP12 (z := n) (by omega) (by omega)
              have hX194 : Px (n) (nd) A A189 := eA189 ▸ Px_a hX13 (z := n) (by omega) (by omega)
              have hS195 : Fx sr (sy) A A189 := eA189 ▸ Fx_n hS14 rfl
              have hV196 : Fx [14] (vi) A A189 := eA189 ▸ Fx_n hV15 rfl
              have sf197 : ND A189 (n) (kk) (aa) (many) (cc) (de) (Ax 21 (n).toNat) (xx) := ND_b eA189 sf16
              have sf198 : CL 0 A189 (sy1) pb (k) (Vs) (n) (last) (many) (n + 1) (nd1) (sy) (sy1) := CL_ag (by omega) (by omega) (Sg_ne eA189 rfl) (Qg_ne eA189 rfl) (Ag_st eA189 (by omega) (by omega)) ((congrFun ((congrFun eA189 21).trans (uA_ne (by decide))) _)) sf17
              have sf199 : NdO A189 (n) (n + 1) (sy) (n) := NdO_2 eA189 (by decide) (by omega) (by omega) sf18
              have sf200 : NdM A189 (nd) (nd1) (sy) := NdM_sx eA189 (by omega) (by omega) sf19
              have ec201 : ecn A189 (G2 31) = ec1 := (ecn_e ((congrFun eA189 15).trans (uA_ne (by decide)))).trans ec20
              refine jx_rt (v := none) rfl rfl rfl rfl rfl rfl ?_
              exact ⟨_, _, ln1, at1, fk2_5, nd1, sy1, na1, vi1, lf1, many, Ax 21 (n).toNat, ec1, rfl, rfl, hW190, hF191, hP193, hX194, hS195, hV196, ((hF7.1 9 rfl).trans (ex_ln1)), ((hF7.1 10 rfl).trans (ex_at1)), (e9), ((hF7.1 31 rfl).trans (ex_nd1)), ((hF7.1 19 rfl).trans (ex_sy1)), ((hF7.1 28 rfl).trans (ex_na1)), ((hF7.1 29 rfl).trans (ex_vi1)), (congrFun (((congrFun eA189 3).trans (uA_ne (by decide))).trans (hF7.2 3 rfl)) _).trans (ex_lf1), (q192), (congrFun (((congrFun eA189 21).trans (uA_ne (by decide))).trans (hF7.2 21 rfl)) _), ec201, by omega, by omega, by omega, by omega, by omega, by omega, by omega, by first | exact Or.inr ((⟨by omega, by omega, by omega, by omega, by omega, sf197, (RL_eq (RL_cl sf198) (by omega) (by omega) (by omega) (by omega) (by omega)), by omega, sf199, sf200⟩))⟩
            · have _q := h188
              refine jx_ld (pc_q := 112) (l_q := L) (st_q := [.ref 66]) rfl (jl_aloadn gL_0) ?_
              refine jx_ld (pc_q := 113) (l_q := L) (st_q := [.int (i32 (lv)), .ref 66]) rfl (jl_iloadn gL_2) ?_
              refine jx_ar (pc_q := 114) (st_q := [.int (i32 (1)), .int (i32 (lv)), .ref 66]) rfl rfl rfl rfl ?_
              refine jx_add (pc_q := 115) rfl rfl ?_
              refine jx_vr (pc_q := 118) (as := [.int (i32 ((lv + 1)))]) (st := []) rfl rfl rfl rfl ⟨rfl, rfl, Nat.le_of_ble_eq_true rfl⟩ rfl rfl (c_needLevel (dd := d) (hd := by omega) (hW := hW6) (lv := (lv + 1)) (ln := ln1) (e_ln := show G2 9 = ln1 from ((hF7.1 9 rfl).trans (ex_ln1))) (li := li) (e_li := show G2 3 = li from ((hF7.1 3 rfl).trans ((hFx.1 3 rfl).trans (e_li)))) (fk := fk2_5) (e_fk := show G2 16 = fk2_5 from (e9)) (ll := A 5 (ln1).toNat) (e_ll := show A3 5 (ln1).toNat = A 5 (ln1).toNat from (congrFun ((hF7.2 5 rfl).trans (hFx.2 5 rfl)) _))  (h_lv := ⟨(by omega), (by omega)⟩)  ) (fun o V_q hq => ?_)
              obtain ⟨G202, A203, r204, fk2_205, rfl, rfl, hW206, hF207, b208, e209, q210⟩ := hq
              have hF211 := Fr_tr hF11 hF207 (Fr_sub (by decide)) (Fr_sub (by decide))
              have hP212 := Pf_f hP12 hF207 (by decide)
              have hX213 := Px_f hX13 hF207 (by decide)
              have hS214 := Fx_f hS14 hF207 (by decide)
              have hV215 := Fx_f hV15 hF207 (by decide)
              have sf216 : ND A203 (n) (kk) (aa) (bb) (cc) (de) (Ax 21 (n).toNat) (xx) := ND_ag (by omega) (Ag_fr hF207 (by decide)) sf16
              have sf217 : CL 0 A203 (sy1) pb (k) (Vs) (n) (last) (many) (n + 1) (nd1) (sy) (sy1) := CL_ag (by omega) (by omega) (Sg_fr hF207 (by decide)) (Qg_fr hF207 (by decide)) (Ag_fr hF207 (by decide)) (congrFun (hF207.2 21 rfl) _) sf17
              have sf218 : NdO A203 (n) (n + 1) (sy) (n) := NdO_f hF207 (by decide) sf18
              have sf219 : NdM A203 (nd) (nd1) (sy) := NdM_f hF207 (by decide) sf19
              have ec220 : ecn A203 (G202 31) = ec1 := (ecn_f (hF207.2 15 rfl) (hF207.1 31 rfl)).trans ec20
              have bfk2_205 : (0 : Int) ≤ fk2_205 ∧ fk2_205 ≤ 6 := e209 ▸ hW206.1 16
              refine .inr ⟨_, rfl, ?_⟩
              rcases q210 with ⟨rfl, a221, a222, a223, a224⟩ | ⟨rfl, a225⟩
              · have _q : True := trivial
                have b226 : (0 : Int) ≤ A 4 (ln1).toNat ∧ A 4 (ln1).toNat ≤ 3000 := hW.2 4 _
                have lt227 : lf1 < A 4 (ln1).toNat := LT_at (LT_ext (((hF207.1 3 rfl).trans ((hF7.1 3 rfl).trans (hFx.1 3 rfl)))) (((hF207.2 3 rfl).trans ((hF7.2 3 rfl).trans (hFx.2 3 rfl)))) (((hF207.2 4 rfl).trans ((hF7.2 4 rfl).trans (hFx.2 4 rfl)))) i_LT) (show G202 3 = li from ((hF207.1 3 rfl).trans ((hF7.1 3 rfl).trans ((hFx.1 3 rfl).trans (e_li))))) (show A203 3 (ln1).toNat = lf1 from (congrFun ((hF207.2 3 rfl).trans (hF7.2 3 rfl)) _).trans (ex_lf1)) (show A203 4 (ln1).toNat = A 4 (ln1).toNat from (congrFun ((hF207.2 4 rfl).trans ((hF7.2 4 rfl).trans (hFx.2 4 rfl))) _)) (by omega) (by omega)
                refine jx_ar (pc_q := 119) (st_q := []) rfl rfl rfl rfl ?_
                refine jx_ld (pc_q := 120) (l_q := L) (st_q := [.ref 66]) rfl (jl_aloadn gL_0) ?_
                refine jr_get (pc_q := 123) (i := 35) (v := .ref 85) rfl rfl (by decide) rfl rfl ?_
                refine jx_ld (pc_q := 124) (l_q := L) (st_q := [.int (i32 (n)), .ref 85]) rfl (jl_iloadn gL_1) ?_
                refine jx_ld (pc_q := 126) (l_q := L) (st_q := [.int (i32 (many)), .int (i32 (n)), .ref 85]) rfl (jl_iload gL_6) ?_
                refine jr_st (pc_q := 127) (i := 18) (m := 7000) (z := n) (y := many) rfl (by decide) rfl (by decide) (by omega) (by omega) rfl ?_
                have hW229 : Wk G202 (uA A203 18 (n).toNat (many)) := Wk_a hW206 (show (-2147483648 : Int) ≤ many by omega) (show many ≤ (2147483647 : Int) by omega)
                have hF230 := Fr_a (z := many) (k := 18) (n := (n).toNat) hF211 (by decide)
                obtain ⟨A228, eA228⟩ : ∃ q, q = uA A203 18 (n).toNat (many) := ⟨_, rfl⟩
                rw [← eA228]
                rw [← eA228] at hW229 hF230
                have q231 : A228 18 (n).toNat = many := by rw [eA228]; exact uA_eq
                have hP232 : Pf zz A A228 := eA228 ▸ Pf_a hP212 (z := n) (by omega) (by omega)
                have hX233 : Px (n) (nd) A A228 := eA228 ▸ Px_a hX213 (z := n) (by omega) (by omega)
                have hS234 : Fx sr (sy) A A228 := eA228 ▸ Fx_n hS214 rfl
                have hV235 : Fx [14] (vi) A A228 := eA228 ▸ Fx_n hV215 rfl
                have sf236 : ND A228 (n) (kk) (aa) (many) (cc) (de) (Ax 21 (n).toNat) (xx) := ND_b eA228 sf216
                have sf237 : CL 0 A228 (sy1) pb (k) (Vs) (n) (last) (many) (n + 1) (nd1) (sy) (sy1) := CL_ag (by omega) (by omega) (Sg_ne eA228 rfl) (Qg_ne eA228 rfl) (Ag_st eA228 (by omega) (by omega)) ((congrFun ((congrFun eA228 21).trans (uA_ne (by decide))) _)) sf217
                have sf238 : NdO A228 (n) (n + 1) (sy) (n) := NdO_2 eA228 (by decide) (by omega) (by omega) sf218
                have sf239 : NdM A228 (nd) (nd1) (sy) := NdM_sx eA228 (by omega) (by omega) sf219
                have ec240 : ecn A228 (G202 31) = ec1 := (ecn_e ((congrFun eA228 15).trans (uA_ne (by decide)))).trans ec220
                refine jx_rt (v := none) rfl rfl rfl rfl rfl rfl ?_
                exact ⟨_, _, ln1, at1, fk2_205, nd1, sy1, na1, vi1, lf1, many, Ax 21 (n).toNat, ec1, rfl, rfl, hW229, hF230, hP232, hX233, hS234, hV235, ((hF207.1 9 rfl).trans ((hF7.1 9 rfl).trans (ex_ln1))), ((hF207.1 10 rfl).trans ((hF7.1 10 rfl).trans (ex_at1))), (e209), ((hF207.1 31 rfl).trans ((hF7.1 31 rfl).trans (ex_nd1))), ((hF207.1 19 rfl).trans ((hF7.1 19 rfl).trans (ex_sy1))), ((hF207.1 28 rfl).trans ((hF7.1 28 rfl).trans (ex_na1))), ((hF207.1 29 rfl).trans ((hF7.1 29 rfl).trans (ex_vi1))), (congrFun (((congrFun eA228 3).trans (uA_ne (by decide))).trans ((hF207.2 3 rfl).trans (hF7.2 3 rfl))) _).trans (ex_lf1), (q231), (congrFun (((congrFun eA228 21).trans (uA_ne (by decide))).trans ((hF207.2 21 rfl).trans (hF7.2 21 rfl))) _), ec240, by omega, by omega, by omega, by omega, by omega, by omega, by omega, by first | exact Or.inr ((⟨by omega, by omega, by omega, by omega, by omega, sf236, (RL_eq (RL_cl sf237) (by omega) (by omega) (by omega) (by omega) (by omega)), by omega, sf238, sf239⟩))⟩
              · have _q : True := trivial
                refine jx_ar (pc_q := 119) (st_q := []) rfl rfl rfl rfl ?_
                refine jx_ld (pc_q := 120) (l_q := L) (st_q := [.ref 66]) rfl (jl_aloadn gL_0) ?_
                refine jr_get (pc_q := 123) (i := 35) (v := .ref 85) rfl rfl (by decide) rfl rfl ?_
                refine jx_ld (pc_q := 124) (l_q := L) (st_q := [.int (i32 (n)), .ref 85]) rfl (jl_iloadn gL_1) ?_
                refine jx_ld (pc_q := 126) (l_q := L) (st_q := [.int (i32 (many)), .int (i32 (n)), .ref 85]) rfl (jl_iload gL_6) ?_
                refine jr_st (pc_q := 127) (i := 18) (m := 7000) (z := n) (y := many) rfl (by decide) rfl (by decide) (by omega) (by omega) rfl ?_
                have hW242 : Wk G202 (uA A203 18 (n).toNat (many)) := Wk_a hW206 (show (-2147483648 : Int) ≤ many by omega) (show many ≤ (2147483647 : Int) by omega)
                have hF243 := Fr_a (z := many) (k := 18) (n := (n).toNat) hF211 (by decide)
                obtain ⟨A241, eA241⟩ : ∃ q, q = uA A203 18 (n).toNat (many) := ⟨_, rfl⟩
                rw [← eA241]
                rw [← eA241] at hW242 hF243
                have q244 : A241 18 (n).toNat = many := by rw [eA241]; exact uA_eq
                have hP245 : Pf zz A A241 := eA241 ▸ Pf_a hP212 (z := n) (by omega) (by omega)
                have hX246 : Px (n) (nd) A A241 := eA241 ▸ Px_a hX213 (z := n) (by omega) (by omega)
                have hS247 : Fx sr (sy) A A241 := eA241 ▸ Fx_n hS214 rfl
                have hV248 : Fx [14] (vi) A A241 := eA241 ▸ Fx_n hV215 rfl
                have sf249 : ND A241 (n) (kk) (aa) (many) (cc) (de) (Ax 21 (n).toNat) (xx) := ND_b eA241 sf216
                have sf250 : CL 0 A241 (sy1) pb (k) (Vs) (n) (last) (many) (n + 1) (nd1) (sy) (sy1) := CL_ag (by omega) (by omega) (Sg_ne eA241 rfl) (Qg_ne eA241 rfl) (Ag_st eA241 (by omega) (by omega)) ((congrFun ((congrFun eA241 21).trans (uA_ne (by decide))) _)) sf217
                have sf251 : NdO A241 (n) (n + 1) (sy) (n) := NdO_2 eA241 (by decide) (by omega) (by omega) sf218
                have sf252 : NdM A241 (nd) (nd1) (sy) := NdM_sx eA241 (by omega) (by omega) sf219
                have ec253 : ecn A241 (G202 31) = ec1 := (ecn_e ((congrFun eA241 15).trans (uA_ne (by decide)))).trans ec220
                refine jx_rt (v := none) rfl rfl rfl rfl rfl rfl ?_
                exact ⟨_, _, ln1, at1, fk2_205, nd1, sy1, na1, vi1, lf1, many, Ax 21 (n).toNat, ec1, rfl, rfl, hW242, hF243, hP245, hX246, hS247, hV248, ((hF207.1 9 rfl).trans ((hF7.1 9 rfl).trans (ex_ln1))), ((hF207.1 10 rfl).trans ((hF7.1 10 rfl).trans (ex_at1))), (e209), ((hF207.1 31 rfl).trans ((hF7.1 31 rfl).trans (ex_nd1))), ((hF207.1 19 rfl).trans ((hF7.1 19 rfl).trans (ex_sy1))), ((hF207.1 28 rfl).trans ((hF7.1 28 rfl).trans (ex_na1))), ((hF207.1 29 rfl).trans ((hF7.1 29 rfl).trans (ex_vi1))), (congrFun (((congrFun eA241 3).trans (uA_ne (by decide))).trans ((hF207.2 3 rfl).trans (hF7.2 3 rfl))) _).trans (ex_lf1), (q244), (congrFun (((congrFun eA241 21).trans (uA_ne (by decide))).trans ((hF207.2 21 rfl).trans (hF7.2 21 rfl))) _), ec253, by omega, by omega, by omega, by omega, by omega, by omega, by omega, by first | exact Or.inl (⟨by omega, by omega⟩)⟩
      · have _q := h181
        exact absurd h181 (by omega)
set_option maxRecDepth 20000 in
set_option maxHeartbeats 4000000 in
theorem c_readChildren_w {X : jX} {k : Nat} (hP : RPw X k) {zz : Int} {dd : Nat} {Vs : Nat → Prop} {sb pb : Int} (hvb : VB Vs sb) {c0 c1 : jC} {G : Nat → Int} {A : Nat → Nat → Int} {T : jH} {n lv least mo : Int} {kk aa bb cc de xx : Int} {ln li at0 fk nd sy na vi lf ec : Int} (hd : 8 * k + 81 ≤ dd) (hW : Wk G A) (e_ln : G 9 = ln) (e_li : G 3 = li) (e_at0 : G 10 = at0) (e_fk : G 16 = fk) (e_nd : G 31 = nd) (e_sy : G 19 = sy) (e_na : G 28 = na) (e_vi : G 29 = vi) (e_lf : A 3 (ln).toNat = lf) (e_ec : ecn A (G 31) = ec) (i_LT : LT G A) (i_SV : SV Vs sb G A) (i_PQ : PQ Vs sb pb G A) (h_n : (-2147483648 : Int) ≤ n ∧ n ≤ 2147483647) (h_lv : (-2147483648 : Int) ≤ lv ∧ lv ≤ 2147483647) (h_least : (-2147483648 : Int) ≤ least ∧ least ≤ 2147483647) (h_mo : (-2147483648 : Int) ≤ mo ∧ mo ≤ 2147483647) (p_0 : 0 ≤ n ∧ n ≤ 6998) (p_1 : n < nd) (p_2 : 0 ≤ lv ∧ lv ≤ 15) (p_3 : 17 - lv ≤ (k : Int)) (p_4 : fk = 0) (p_5 : ln ≤ li) (p_6 : at0 < lf ∨ li ≤ ln) (p_7 : nd ≤ 2 * at0 + 32) (p_8 : sy ≤ na + 2) (p_9 : vi ≤ sy) (p_10 : 0 ≤ least ∧ least ≤ 2) (p_11 : 0 ≤ mo) (p_12 : zz ≤ n) (p_13 : nd = n + 1) (p_14 : sb ≤ sy) (p_15 : ND A (n) (kk) (aa) (bb) (cc) (de) (0) (xx)) (p_16 : NdO A (n) (n + 1) (sy) (n)) : wk X dd 296 [.ref 66, .int (i32 n), .int (i32 lv), .int (i32 least), .int (i32 mo)] (rV c0 c1 G A T) (fun o V_q => ∃ (G_q : Nat → Int) (A_q : Nat → Nat → Int) (ln2 : Int) (at2 : Int) (fk2 : Int) (nd2 : Int) (sy2 : Int) (na2 : Int) (vi2 : Int) (lf2 : Int) (mm : Int) (f2 : Int) (ec2 : Int), V_q = rV c0 c1 G_q A_q T ∧ o = .inl none ∧ Wk G_q A_q ∧ Fr [9, 10, 11, 12, 13, 14, 15, 16, 17, 18, 19, 28, 29, 31] [6, 7, 8, 9, 10, 11, 12, 14, 15, 16, 17, 18, 19, 20, 21, 22, 23, 24, 28] G A G_q A_q ∧ Pf zz A A_q ∧ Px (n) (nd) A A_q ∧ Fx sr (sy) A A_q ∧ Fx [14] (vi) A A_q ∧ G_q 9 = ln2 ∧ G_q 10 = at2 ∧ G_q 16 = fk2 ∧ G_q 31 = nd2 ∧ G_q 19 = sy2 ∧ G_q 28 = na2 ∧ G_q 29 = vi2 ∧ A_q 3 (ln2).toNat = lf2 ∧ A_q 18 (n).toNat = mm ∧ A_q 21 (n).toNat = f2 ∧ ecn A_q (G_q 31) = ec2 ∧ (at0 ≤ at2) ∧ (nd ≤ nd2) ∧ (sy ≤ sy2) ∧ (sy2 ≤ na2 + 2) ∧ (ln ≤ ln2) ∧ (ln2 ≤ li) ∧ (vi2 = vi) ∧ (((1 ≤ fk2) ∧ (nd2 - nd ≤ 2 * at2 - 2 * at0 + 12)) ∨ ((fk2 = 0) ∧ (nd2 - nd ≤ 2 * at2 - 2 * at0) ∧ (at2 < lf2 ∨ li ≤ ln2) ∧ (least ≤ mm) ∧ (mm ≤ mo) ∧ (ND A_q (n) (kk) (aa) (mm) (cc) (de) (f2) (xx)) ∧ (RL 0 A_q (sy2) pb (k) (Vs) (n) (mm) (n + 1) (nd2) (sy) (sy2)) ∧ (nd2 - nd + 5 * (ec2 - ec) ≤ 2 * at2 - 2 * at0) ∧ (NdO A_q (n) (n + 1) (sy) (n)) ∧ (NdM A_q (nd) (nd2) (sy))))) := by
  obtain ⟨d, rfl⟩ : ∃ d, dd = d + 1 := ⟨dd - 1, by omega⟩
  refine wk_of (e := jm296) rfl (Nat.le_of_ble_eq_true rfl) ?_
  show wj X d jm296 (0, [(0, .ref 66), (1, .int (i32 (n))), (2, .int (i32 (lv))), (3, .int (i32 (least))), (4, .int (i32 (mo)))], [], rV c0 c1 G A T) _
  have hF0 : Fr [9, 10, 11, 12, 13, 14, 15, 16, 17, 18, 19, 28, 29, 31] [6, 7, 8, 9, 10, 11, 12, 14, 15, 16, 17, 18, 19, 20, 21, 22, 23, 24, 28] G A G A := Fr_rf
  have hP0 : Pf zz A A := Pf_rf
  have hX0 : Px (n) (nd) A A := Px_rf
  have hS0 : Fx sr (sy) A A := Fx_rf
  have hV0 : Fx [14] (vi) A A := Fx_rf
  have b_ln : (0 : Int) ≤ ln ∧ ln ≤ 3000 := e_ln ▸ hW.1 9
  have b_li : (0 : Int) ≤ li ∧ li ≤ 3000 := e_li ▸ hW.1 3
  have b_at0 : (0 : Int) ≤ at0 ∧ at0 ≤ 3002 := e_at0 ▸ hW.1 10
  have b_fk : (0 : Int) ≤ fk ∧ fk ≤ 6 := e_fk ▸ hW.1 16
  have b_nd : (0 : Int) ≤ nd ∧ nd ≤ 6999 := e_nd ▸ hW.1 31
  have b_sy : (0 : Int) ≤ sy ∧ sy ≤ 202 := e_sy ▸ hW.1 19
  have b_na : (0 : Int) ≤ na ∧ na ≤ 200 := e_na ▸ hW.1 28
  have b_vi : (0 : Int) ≤ vi ∧ vi ≤ 202 := e_vi ▸ hW.1 29
  have b_lf : (0 : Int) ≤ lf ∧ lf ≤ 3000 := e_lf ▸ hW.2 3 _
  refine jx_ar (pc_q := 1) (st_q := [.int (i32 (0))]) rfl rfl rfl rfl ?_
  refine jx_ld (pc_q := 3) (l_q := jSto1 [(0, .ref 66), (1, .int (i32 (n))), (2, .int (i32 (lv))), (3, .int (i32 (least))), (4, .int (i32 (mo)))] 5 (.int (i32 (0)))) (st_q := []) rfl rfl ?_
  obtain ⟨L254, eL254⟩ : ∃ q, q = jSto1 [(0, .ref 66), (1, .int (i32 (n))), (2, .int (i32 (lv))), (3, .int (i32 (least))), (4, .int (i32 (mo)))] 5 (.int (i32 (0))) := ⟨_, rfl⟩
  rw [← eL254]
  have gL254_0 : jGet L254 0 = some (.ref 66) := eL254 ▸ jg_ne (by decide) (rfl : jGet [(0, .ref 66), (1, .int (i32 (n))), (2, .int (i32 (lv))), (3, .int (i32 (least))), (4, .int (i32 (mo)))] 0 = some (.ref 66)) rfl
  have gL254_1 : jGet L254 1 = some (.int (i32 (n))) := eL254 ▸ jg_ne (by decide) (rfl : jGet [(0, .ref 66), (1, .int (i32 (n))), (2, .int (i32 (lv))), (3, .int (i32 (least))), (4, .int (i32 (mo)))] 1 = some (.int (i32 (n)))) rfl
  have gL254_2 : jGet L254 2 = some (.int (i32 (lv))) := eL254 ▸ jg_ne (by decide) (rfl : jGet [(0, .ref 66), (1, .int (i32 (n))), (2, .int (i32 (lv))), (3, .int (i32 (least))), (4, .int (i32 (mo)))] 2 = some (.int (i32 (lv)))) rfl
  have gL254_3 : jGet L254 3 = some (.int (i32 (least))) := eL254 ▸ jg_ne (by decide) (rfl : jGet [(0, .ref 66), (1, .int (i32 (n))), (2, .int (i32 (lv))), (3, .int (i32 (least))), (4, .int (i32 (mo)))] 3 = some (.int (i32 (least)))) rfl
  have gL254_4 : jGet L254 4 = some (.int (i32 (mo))) := eL254 ▸ jg_ne (by decide) (rfl : jGet [(0, .ref 66), (1, .int (i32 (n))), (2, .int (i32 (lv))), (3, .int (i32 (least))), (4, .int (i32 (mo)))] 4 = some (.int (i32 (mo)))) rfl
  have gL254_5 : jGet L254 5 = some (.int (i32 (0))) := eL254 ▸ jg_eq
  refine jx_ar (pc_q := 4) (st_q := [.int (i32 (0))]) rfl rfl rfl rfl ?_
  refine jx_ld (pc_q := 6) (l_q := jSto1 L254 6 (.int (i32 (0)))) (st_q := []) rfl rfl ?_
  obtain ⟨L255, eL255⟩ : ∃ q, q = jSto1 L254 6 (.int (i32 (0))) := ⟨_, rfl⟩
  rw [← eL255]
  have gL255_0 : jGet L255 0 = some (.ref 66) := eL255 ▸ jg_ne (by decide) gL254_0 rfl
  have gL255_1 : jGet L255 1 = some (.int (i32 (n))) := eL255 ▸ jg_ne (by decide) gL254_1 rfl
  have gL255_2 : jGet L255 2 = some (.int (i32 (lv))) := eL255 ▸ jg_ne (by decide) gL254_2 rfl
  have gL255_3 : jGet L255 3 = some (.int (i32 (least))) := eL255 ▸ jg_ne (by decide) gL254_3 rfl
  have gL255_4 : jGet L255 4 = some (.int (i32 (mo))) := eL255 ▸ jg_ne (by decide) gL254_4 rfl
  have gL255_5 : jGet L255 5 = some (.int (i32 (0))) := eL255 ▸ jg_ne (by decide) gL254_5 rfl
  have gL255_6 : jGet L255 6 = some (.int (i32 (0))) := eL255 ▸ jg_eq
  exact c_readChildren_w_at_6 (X := X) (k := k) (hP := hP) (zz := zz) (d := d) (Vs := Vs) (sb := sb) (pb := pb) (hvb := hvb) (c0 := c0) (c1 := c1) (G := G) (A := A) (T := T) (n := n) (lv := lv) (least := least) (mo := mo) (kk := kk) (aa := aa) (bb := bb) (cc := cc) (de := de) (xx := xx) (ln := ln) (li := li) (at0 := at0) (fk := fk) (nd := nd) (sy := sy) (na := na) (vi := vi) (lf := lf) (ec := ec) (hd := hd) (hW := hW) (e_ln := e_ln) (e_li := e_li) (e_at0 := e_at0) (e_fk := e_fk) (e_nd := e_nd) (e_sy := e_sy) (e_na := e_na) (e_vi := e_vi) (e_lf := e_lf) (e_ec := e_ec) (i_LT := i_LT) (i_SV := i_SV) (i_PQ := i_PQ) (h_n := h_n) (h_lv := h_lv) (h_least := h_least) (h_mo := h_mo) (p_0 := p_0) (p_1 := p_1) (p_2 := p_2) (p_3 := p_3) (p_4 := p_4) (p_5 := p_5) (p_6 := p_6) (p_7 := p_7) (p_8 := p_8) (p_9 := p_9) (p_10 := p_10) (p_11 := p_11) (p_12 := p_12) (p_13 := p_13) (p_14 := p_14) (p_15 := p_15) (p_16 := p_16) _ L255 G A (0) (0) (ln) (at0) (fk) (nd) (sy) (na) (vi) (lf) (ec) rfl gL255_0 gL255_1 gL255_2 gL255_3 gL255_4 gL255_5 gL255_6 hW hF0 hP0 hX0 hS0 hV0 ((e_ln)) ((e_at0)) ((e_fk)) ((e_nd)) ((e_sy)) ((e_na)) ((e_vi)) ((e_lf)) (e_ec) (by omega) (by omega) (by omega) (by omega) (by omega) (by omega) (by omega) (by omega) (by omega) (by omega) (by omega) (by omega) (by omega) (by omega) (by omega) (by omega) (by omega) ((ND_sf p_15)) ((CL_eq (CL_nil (lo := n + 1) (s0 := sy) (ND_f0 p_15)) (by omega) (by omega) (by omega) (by omega) (by omega) (by omega))) (by omega) (p_16) ((NdM_0 (by omega)))
set_option maxRecDepth 20000 in
set_option maxHeartbeats 4000000 in
theorem c_readIndexed_w {X : jX} {k : Nat} (hP : RPw X k) {zz : Int} {dd : Nat} {Vs : Nat → Prop} {sb pb : Int} (hvb : VB Vs sb) {c0 c1 : jC} {G : Nat → Int} {A : Nat → Nat → Int} {T : jH} {n lv : Int} {kk bb cc de xx : Int} {ln li at0 fk nd sy na vi lf sa ksa ec : Int} (hd : 8 * k + 81 ≤ dd) (hW : Wk G A) (e_ln : G 9 = ln) (e_li : G 3 = li) (e_at0 : G 10 = at0) (e_fk : G 16 = fk) (e_nd : G 31 = nd) (e_sy : G 19 = sy) (e_na : G 28 = na) (e_vi : G 29 = vi) (e_lf : A 3 (ln).toNat = lf) (e_sa : A 17 (n).toNat = sa) (e_ksa : A 7 (sa).toNat = ksa) (e_ec : ecn A (G 31) = ec) (i_LT : LT G A) (i_SV : SV Vs sb G A) (i_PQ : PQ Vs sb pb G A) (h_n : (-2147483648 : Int) ≤ n ∧ n ≤ 2147483647) (h_lv : (-2147483648 : Int) ≤ lv ∧ lv ≤ 2147483647) (p_0 : 0 ≤ n ∧ n ≤ 6998) (p_1 : n < nd) (p_2 : 0 ≤ lv ∧ lv ≤ 15) (p_3 : 17 - lv ≤ (k : Int)) (p_4 : fk = 0) (p_5 : ln ≤ li) (p_6 : at0 < lf ∨ li ≤ ln) (p_7 : nd ≤ 2 * at0 + 32) (p_8 : sy ≤ na + 2) (p_9 : vi ≤ sy) (p_10 : 0 ≤ sa ∧ sa ≤ 201) (p_11 : vi < sy) (p_12 : zz ≤ n) (p_13 : sa = sy - 1) (p_14 : sb ≤ sa) (p_15 : ksa ≤ 13) (p_16 : ND A (n) (kk) (sa) (bb) (cc) (de) (0) (xx)) (p_17 : NdO A (n) (n + 1) (sa) (n)) : wk X dd 298 [.ref 66, .int (i32 n), .int (i32 lv)] (rV c0 c1 G A T) (fun o V_q => ∃ (G_q : Nat → Int) (A_q : Nat → Nat → Int) (ln2 : Int) (at2 : Int) (fk2 : Int) (nd2 : Int) (sy2 : Int) (na2 : Int) (vi2 : Int) (lf2 : Int) (f2 : Int) (ec2 : Int), V_q = rV c0 c1 G_q A_q T ∧ o = .inl (some (.int (i32 (n)))) ∧ Wk G_q A_q ∧ Fr [9, 10, 11, 12, 13, 14, 15, 16, 17, 18, 19, 28, 29, 31] [6, 7, 8, 9, 10, 11, 12, 14, 15, 16, 17, 18, 19, 20, 21, 22, 23, 24, 28] G A G_q A_q ∧ Pf zz A A_q ∧ Px (n) (nd) A A_q ∧ Fx sr (sy) A A_q ∧ Fx [14] (vi) A A_q ∧ G_q 9 = ln2 ∧ G_q 10 = at2 ∧ G_q 16 = fk2 ∧ G_q 31 = nd2 ∧ G_q 19 = sy2 ∧ G_q 28 = na2 ∧ G_q 29 = vi2 ∧ A_q 3 (ln2).toNat = lf2 ∧ A_q 21 (n).toNat = f2 ∧ ecn A_q (G_q 31) = ec2 ∧ (at0 ≤ at2) ∧ (nd ≤ nd2) ∧ (sy ≤ sy2) ∧ (sy2 ≤ na2 + 2) ∧ (ln ≤ ln2) ∧ (ln2 ≤ li) ∧ (vi2 = vi) ∧ (((1 ≤ fk2) ∧ (nd2 - nd ≤ 2 * at2 - 2 * at0 + 12)) ∨ ((fk2 = 0) ∧ (nd2 - nd ≤ 2 * at2 - 2 * at0) ∧ (at2 < lf2 ∨ li ≤ ln2) ∧ (ln < ln2) ∧ (ND A_q (n) (kk) (sa) (bb) (cc) (de) (f2) (xx)) ∧ (wP A_q (sy2) pb (k) (Vu Vs sa) (f2) (nd) (nd2) (sy) (sy2)) ∧ (nd2 - nd + 5 * (ec2 - ec) ≤ 2 * at2 - 2 * at0) ∧ (NdO A_q (n) (n + 1) (sa) (n)) ∧ (NdM A_q (nd) (nd2) (sa))))) := by
  obtain ⟨d, rfl⟩ : ∃ d, dd = d + 1 := ⟨dd - 1, by omega⟩
  refine wk_of (e := jm298) rfl (Nat.le_of_ble_eq_true rfl) ?_
  show wj X d jm298 (0, [(0, .ref 66), (1, .int (i32 (n))), (2, .int (i32 (lv)))], [], rV c0 c1 G A T) _
  have hF0 : Fr [9, 10, 11, 12, 13, 14, 15, 16, 17, 18, 19, 28, 29, 31] [6, 7, 8, 9, 10, 11, 12, 14, 15, 16, 17, 18, 19, 20, 21, 22, 23, 24, 28] G A G A := Fr_rf
  have hP0 : Pf zz A A := Pf_rf
  have hX0 : Px (n) (nd) A A := Px_rf
  have hS0 : Fx sr (sy) A A := Fx_rf
  have hV0 : Fx [14] (vi) A A := Fx_rf
  have b_ln : (0 : Int) ≤ ln ∧ ln ≤ 3000 := e_ln ▸ hW.1 9
  have b_li : (0 : Int) ≤ li ∧ li ≤ 3000 := e_li ▸ hW.1 3
  have b_at0 : (0 : Int) ≤ at0 ∧ at0 ≤ 3002 := e_at0 ▸ hW.1 10
  have b_fk : (0 : Int) ≤ fk ∧ fk ≤ 6 := e_fk ▸ hW.1 16
  have b_nd : (0 : Int) ≤ nd ∧ nd ≤ 6999 := e_nd ▸ hW.1 31
  have b_sy : (0 : Int) ≤ sy ∧ sy ≤ 202 := e_sy ▸ hW.1 19
  have b_na : (0 : Int) ≤ na ∧ na ≤ 200 := e_na ▸ hW.1 28
  have b_vi : (0 : Int) ≤ vi ∧ vi ≤ 202 := e_vi ▸ hW.1 29
  have b_lf : (0 : Int) ≤ lf ∧ lf ≤ 3000 := e_lf ▸ hW.2 3 _
  have b_sa : (-2147483648 : Int) ≤ sa ∧ sa ≤ 2147483647 := e_sa ▸ hW.2 17 _
  have b_ksa : (0 : Int) ≤ ksa ∧ ksa ≤ 14 := e_ksa ▸ hW.2 7 _
  refine jx_ld (pc_q := 1) (l_q := [(0, .ref 66), (1, .int (i32 (n))), (2, .int (i32 (lv)))]) (st_q := [.ref 66]) rfl (jl_aloadn rfl) ?_
  refine jx_vr (pc_q := 4) (as := []) (st := []) rfl rfl rfl rfl ⟨rfl, rfl, Nat.le_of_ble_eq_true rfl⟩ rfl rfl (c_bad (dd := d) (hd := by omega) (hW := hW)  (fk := fk) (e_fk := show G 16 = fk from (e_fk))    ) (fun o V_q hq => ?_)
  obtain ⟨r1, rfl, rfl, b2, q3⟩ := hq
  refine .inr ⟨_, rfl, ?_⟩
  rcases q3 with ⟨rfl, a4⟩ | ⟨rfl, a5⟩
  · have _q : True := trivial
    exfalso
    omega
  · have _q : True := trivial
    refine jx_if_eq (pc_q := 7) (tg := 9) rfl rfl rfl (by decide) (by decide) (fun h6 => ?_) (fun h6 => ?_)
    · have _q := h6
      refine jx_ld (pc_q := 10) (l_q := [(0, .ref 66), (1, .int (i32 (n))), (2, .int (i32 (lv)))]) (st_q := [.ref 66]) rfl (jl_aloadn rfl) ?_
      refine jr_get (pc_q := 13) (i := 29) (v := .int (i32 (vi))) rfl rfl (by decide) (rFv_eq (by decide) (show G 29 = vi from (e_vi))) rfl ?_
      refine jx_ld (pc_q := 14) (l_q := jSto1 [(0, .ref 66), (1, .int (i32 (n))), (2, .int (i32 (lv)))] 3 (.int (i32 (vi)))) (st_q := []) rfl rfl ?_
      obtain ⟨L7, eL7⟩ : ∃ q, q = jSto1 [(0, .ref 66), (1, .int (i32 (n))), (2, .int (i32 (lv)))] 3 (.int (i32 (vi))) := ⟨_, rfl⟩
      rw [← eL7]
      have gL7_0 : jGet L7 0 = some (.ref 66) := eL7 ▸ jg_ne (by decide) (rfl : jGet [(0, .ref 66), (1, .int (i32 (n))), (2, .int (i32 (lv)))] 0 = some (.ref 66)) rfl
      have gL7_1 : jGet L7 1 = some (.int (i32 (n))) := eL7 ▸ jg_ne (by decide) (rfl : jGet [(0, .ref 66), (1, .int (i32 (n))), (2, .int (i32 (lv)))] 1 = some (.int (i32 (n)))) rfl
      have gL7_2 : jGet L7 2 = some (.int (i32 (lv))) := eL7 ▸ jg_ne (by decide) (rfl : jGet [(0, .ref 66), (1, .int (i32 (n))), (2, .int (i32 (lv)))] 2 = some (.int (i32 (lv)))) rfl
      have gL7_3 : jGet L7 3 = some (.int (i32 (vi))) := eL7 ▸ jg_eq
      refine jx_ld (pc_q := 15) (l_q := L7) (st_q := [.ref 66]) rfl (jl_aloadn gL7_0) ?_
      refine jx_ld (pc_q := 16) (l_q := L7) (st_q := [.ref 66, .ref 66]) rfl (jl_aloadn gL7_0) ?_
      refine jr_get (pc_q := 19) (i := 34) (v := .ref 84) rfl rfl (by decide) rfl rfl ?_
      refine jx_ld (pc_q := 20) (l_q := L7) (st_q := [.int (i32 (n)), .ref 84, .ref 66]) rfl (jl_iloadn gL7_1) ?_
      refine jr_ldv (pc_q := 21) (i := 17) (m := 7000) (z := n) (y := sa) rfl (by decide) rfl (by decide) (by omega) (by omega) rfl (show A 17 (n).toNat = sa from (e_sa)) ?_
      refine jx_vr (pc_q := 24) (as := [.int (i32 (sa))]) (st := []) rfl rfl rfl rfl ⟨rfl, rfl, Nat.le_of_ble_eq_true rfl⟩ rfl rfl (c_show (dd := d) (hd := by omega) (hW := hW) (s := sa) (vi := vi) (e_vi := show G 29 = vi from (e_vi))  (h_s := ⟨(Int.le_trans (by decide : (-2147483648 : Int) ≤ -2147483648) b_sa.1), (Int.le_trans b_sa.2 (by decide : (2147483647 : Int) ≤ 2147483647))⟩)  (p_0 := by omega) (p_1 := by omega)) (fun o V_q hq => ?_)
      obtain ⟨G8, A9, vi2_10, sv2_11, rfl, rfl, hW12, hF13, hQ14, e15, e16, p17, p18, -⟩ := hq
      have hF20 := Fr_tr hF0 hF13 (Fr_sub (by decide)) (Fr_sub (by decide))
      have hP21 := Pf_f hP0 hF13 (by decide)
      have hX22 := Px_f hX0 hF13 (by decide)
      have hS23 := Fx_f hS0 hF13 (by decide)
      have hV24 := Fx_tr hV0 hQ14 (by omega)
      have sf25 : ND A9 (n) (kk) (sa) (bb) (cc) (de) (0) (xx) := ND_ag (by omega) (Ag_fr hF13 (by decide)) p_16
      have sf26 : NdO A9 (n) (n + 1) (sa) (n) := NdO_f hF13 (by decide) p_17
      have ec27 : ecn A9 (G8 31) = ec := (ecn_f (hF13.2 15 rfl) (hF13.1 31 rfl)).trans e_ec
      have bvi2_10 : (0 : Int) ≤ vi2_10 ∧ vi2_10 ≤ 202 := e15 ▸ hW12.1 29
      have bsv2_11 : (0 : Int) ≤ sv2_11 ∧ sv2_11 ≤ 201 := e16 ▸ hW12.2 14 _
      refine .inl ⟨rfl, ?_⟩
      refine jx_ld (pc_q := 25) (l_q := L7) (st_q := [.ref 66]) rfl (jl_aloadn gL7_0) ?_
      refine jr_get (pc_q := 28) (i := 38) (v := .ref 88) rfl rfl (by decide) rfl rfl ?_
      refine jx_ld (pc_q := 29) (l_q := L7) (st_q := [.int (i32 (n)), .ref 88]) rfl (jl_iloadn gL7_1) ?_
      refine jx_ld (pc_q := 30) (l_q := L7) (st_q := [.ref 66, .int (i32 (n)), .ref 88]) rfl (jl_aloadn gL7_0) ?_
      refine jx_ld (pc_q := 31) (l_q := L7) (st_q := [.int (i32 (lv)), .ref 66, .int (i32 (n)), .ref 88]) rfl (jl_iloadn gL7_2) ?_
      refine jx_ar (pc_q := 32) (st_q := [.int (i32 (1)), .int (i32 (lv)), .ref 66, .int (i32 (n)), .ref 88]) rfl rfl rfl rfl ?_
      refine jx_add (pc_q := 33) rfl rfl ?_
      refine jx_vr (pc_q := 36) (as := [.int (i32 ((lv + 1)))]) (st := [.int (i32 (n)), .ref 88]) rfl rfl rfl rfl ⟨rfl, rfl, Nat.le_of_ble_eq_true rfl⟩ rfl rfl (hP (dd := d) (hd := by omega) (hW := hW12) (lv := (lv + 1)) (at0 := at0) (ln := ln) (e_ln := show G8 9 = ln from ((hF13.1 9 rfl).trans (e_ln))) (li := li) (e_li := show G8 3 = li from ((hF13.1 3 rfl).trans (e_li))) (fk := fk) (e_fk := show G8 16 = fk from ((hF13.1 16 rfl).trans (e_fk))) (nd := nd) (e_nd := show G8 31 = nd from ((hF13.1 31 rfl).trans (e_nd))) (sy := sy) (e_sy := show G8 19 = sy from ((hF13.1 19 rfl).trans (e_sy))) (na := na) (e_na := show G8 28 = na from ((hF13.1 28 rfl).trans (e_na))) (vi := vi2_10) (e_vi := show G8 29 = vi2_10 from (e15)) (lf := lf) (e_lf := show A9 3 (ln).toNat = lf from (congrFun (hF13.2 3 rfl) _).trans (e_lf)) (ac := at0) (e_ac := show G8 10 = at0 from ((hF13.1 10 rfl).trans (e_at0))) (ec := ec) (e_ec := show ecn A9 (G8 31) = ec from ec27) (i_LT := (LT_ext ((hF13.1 3 rfl)) ((hF13.2 3 rfl)) ((hF13.2 4 rfl)) i_LT)) (i_SV := (SV_show (w := sy) i_SV e_vi (show G8 29 = vi2_10 from (e15)) (by omega) hV24 ((show A9 14 (vi).toNat = sv2_11 from (e16)).trans (by omega : sv2_11 = sa)) (by omega) (by omega) (by omega) (by omega))) (i_PQ := (PQ_show (w := sy) (kd := ksa) i_PQ (Fx_su hS23 (by omega)) (by omega) (hF20.2 29 rfl) (hF20.2 30 rfl) (by omega) (show A9 7 (sa).toNat = ksa from (congrFun (hF13.2 7 rfl) _).trans (e_ksa)) (by omega) hvb)) (hvb := (VB_u (s := sa) (w := sy) hvb (by omega) (by omega))) (h_lv := ⟨(by omega), (by omega)⟩)  (p_0 := by omega) (p_1 := by omega) (p_2 := by omega) (p_3 := by omega) (p_4 := by omega) (p_5 := by omega) (p_6 := by omega) (p_7 := by omega) (p_8 := by omega) (p_9 := by omega) (p_10 := by omega)) (fun o V_q hq => ?_)
      obtain ⟨G28, A29, r30, ln2_31, at2_32, fk2_33, nd2_34, sy2_35, na2_36, vi2_37, lf2_38, ec2_39, rfl, rfl, hW40, hF41, hQ42, hQ43, hQ44, b45, e46, e47, e48, e49, e50, e51, e52, e53, e54, p55, p56, p57, p58, p59, p60, p61, p62, p63, q64⟩ := hq
      have hF65 := Fr_tr hF20 hF41 (Fr_sub (by decide)) (Fr_sub (by decide))
      have hP66 := Pf_tr hP21 hQ42 (by omega)
      have hX67 := Px_p hX22 hQ42 (by omega)
      have hS68 := Fx_tr hS23 hQ43 (by omega)
      have hV69 := Fx_tr hV24 hQ44 (by omega)
      have sf70 : ND A29 (n) (kk) (sa) (bb) (cc) (de) (0) (xx) := ND_ag (by omega) (Ag_pf hQ42 (by omega)) sf25
      have sf71 : NdO A29 (n) (n + 1) (sa) (n) := NdO_pf hQ42 (by omega) (by omega) sf26
      have bln2_31 : (0 : Int) ≤ ln2_31 ∧ ln2_31 ≤ 3000 := e46 ▸ hW40.1 9
      have bat2_32 : (0 : Int) ≤ at2_32 ∧ at2_32 ≤ 3002 := e47 ▸ hW40.1 10
      have bfk2_33 : (0 : Int) ≤ fk2_33 ∧ fk2_33 ≤ 6 := e48 ▸ hW40.1 16
      have bnd2_34 : (0 : Int) ≤ nd2_34 ∧ nd2_34 ≤ 6999 := e49 ▸ hW40.1 31
      have bsy2_35 : (0 : Int) ≤ sy2_35 ∧ sy2_35 ≤ 202 := e50 ▸ hW40.1 19
      have bna2_36 : (0 : Int) ≤ na2_36 ∧ na2_36 ≤ 200 := e51 ▸ hW40.1 28
      have bvi2_37 : (0 : Int) ≤ vi2_37 ∧ vi2_37 ≤ 202 := e52 ▸ hW40.1 29
      have blf2_38 : (0 : Int) ≤ lf2_38 ∧ lf2_38 ≤ 3000 := e53 ▸ hW40.2 3 _
      refine .inr ⟨_, rfl, ?_⟩
      rcases q64 with ⟨a72, a73⟩ | ⟨a74, a75, a76, a77, a78, a79, a80, a81, a82, a83⟩
      · have _q : True := trivial
        refine jr_st (pc_q := 37) (i := 21) (m := 7000) (z := n) (y := r30) rfl (by decide) rfl (by decide) (by omega) (by omega) rfl ?_
        have hW85 : Wk G28 (uA A29 21 (n).toNat (r30)) := Wk_a hW40 (show (-2147483648 : Int) ≤ r30 by omega) (show r30 ≤ (2147483647 : Int) by omega)
        have hF86 := Fr_a (z := r30) (k := 21) (n := (n).toNat) hF65 (by decide)
        obtain ⟨A84, eA84⟩ : ∃ q, q = uA A29 21 (n).toNat (r30) := ⟨_, rfl⟩
        rw [← eA84]
        rw [← eA84] at hW85 hF86
        have q87 : A84 21 (n).toNat = r30 := by rw [eA84]; exact uA_eq
        have hP88 : Pf zz A A84 := eA84 ▸ Pf_a hP66 (z := n) (by omega) (by omega)
        have hX89 : Px (n) (nd) A A84 := eA84 ▸ Px_a hX67 (z := n) (by omega) (by omega)
        have hS90 : Fx sr (sy) A A84 := eA84 ▸ Fx_n hS68 rfl
        have hV91 : Fx [14] (vi) A A84 := eA84 ▸ Fx_n hV69 rfl
        have sf92 : ND A84 (n) (kk) (sa) (bb) (cc) (de) (r30) (xx) := ND_f eA84 sf70
        have sf93 : NdO A84 (n) (n + 1) (sa) (n) := NdO_st eA84 (by decide) sf71
        have ec94 : ecn A84 (G28 31) = ec2_39 := (ecn_e ((congrFun eA84 15).trans (uA_ne (by decide)))).trans e54
        refine jx_ld (pc_q := 38) (l_q := L7) (st_q := [.ref 66]) rfl (jl_aloadn gL7_0) ?_
        refine jx_ld (pc_q := 39) (l_q := L7) (st_q := [.int (i32 (vi)), .ref 66]) rfl (jl_iloadn gL7_3) ?_
        refine jr_put (pc_q := 42) (i := 29) (z := vi) rfl rfl (by decide) rfl rfl rfl rfl rfl rfl ?_
        have hW95 : Wk (uG G28 29 (vi)) A84 := Wk_g hW85 (show (0 : Int) ≤ vi by omega) (show vi ≤ (202 : Int) by omega)
        have hF96 := Fr_g (z := vi) (i := 29) hF86 (by decide)
        have ec97 : ecn A84 ((uG G28 29 (vi)) 31) = ec2_39 := ec94
        refine jx_ld (pc_q := 43) (l_q := L7) (st_q := [.int (i32 (n))]) rfl (jl_iloadn gL7_1) ?_
        refine jx_rt (v := some (.int (i32 (n)))) rfl rfl rfl rfl rfl rfl ?_
        exact ⟨_, _, ln2_31, at2_32, fk2_33, nd2_34, sy2_35, na2_36, vi, lf2_38, r30, ec2_39, rfl, rfl, hW95, hF96, hP88, hX89, hS90, hV91, (e46), (e47), (e48), (e49), (e50), (e51), rfl, (congrFun ((congrFun eA84 3).trans (uA_ne (by decide))) _).trans (e53), (q87), ec97, by omega, by omega, by omega, by omega, by omega, by omega, by omega, by first | exact Or.inl (⟨by omega, by omega⟩)⟩
      · have _q : True := trivial
        refine jr_st (pc_q := 37) (i := 21) (m := 7000) (z := n) (y := r30) rfl (by decide) rfl (by decide) (by omega) (by omega) rfl ?_
        have hW99 : Wk G28 (uA A29 21 (n).toNat (r30)) := Wk_a hW40 (show (-2147483648 : Int) ≤ r30 by omega) (show r30 ≤ (2147483647 : Int) by omega)
        have hF100 := Fr_a (z := r30) (k := 21) (n := (n).toNat) hF65 (by decide)
        obtain ⟨A98, eA98⟩ : ∃ q, q = uA A29 21 (n).toNat (r30) := ⟨_, rfl⟩
        rw [← eA98]
        rw [← eA98] at hW99 hF100
        have q101 : A98 21 (n).toNat = r30 := by rw [eA98]; exact uA_eq
        have hP102 : Pf zz A A98 := eA98 ▸ Pf_a hP66 (z := n) (by omega) (by omega)
        have hX103 : Px (n) (nd) A A98 := eA98 ▸ Px_a hX67 (z := n) (by omega) (by omega)
        have hS104 : Fx sr (sy) A A98 := eA98 ▸ Fx_n hS68 rfl
        have hV105 : Fx [14] (vi) A A98 := eA98 ▸ Fx_n hV69 rfl
        have sf106 : ND A98 (n) (kk) (sa) (bb) (cc) (de) (r30) (xx) := ND_f eA98 sf70
        have sf107 : NdO A98 (n) (n + 1) (sa) (n) := NdO_st eA98 (by decide) sf71
        have sf108 : wP A98 (sy2_35) pb (k) (Vu Vs sa) (r30) (nd) (nd2_34) (sy) (sy2_35) := wP_ag (Sg_ne eA98 rfl) (Qg_ne eA98 rfl) (by omega) (by omega) (Ax_ag (Ag_st eA98 (by omega) (by omega))) a80
        have sf109 : NX A98 (r30) := NX_r eA98 (by decide) a81
        have sf110 : NdM A98 (nd) (nd2_34) (sy) := NdM_st eA98 (by decide) a83
        have ec111 : ecn A98 (G28 31) = ec2_39 := (ecn_e ((congrFun eA98 15).trans (uA_ne (by decide)))).trans e54
        refine jx_ld (pc_q := 38) (l_q := L7) (st_q := [.ref 66]) rfl (jl_aloadn gL7_0) ?_
        refine jx_ld (pc_q := 39) (l_q := L7) (st_q := [.int (i32 (vi)), .ref 66]) rfl (jl_iloadn gL7_3) ?_
        refine jr_put (pc_q := 42) (i := 29) (z := vi) rfl rfl (by decide) rfl rfl rfl rfl rfl rfl ?_
        have hW112 : Wk (uG G28 29 (vi)) A98 := Wk_g hW99 (show (0 : Int) ≤ vi by omega) (show vi ≤ (202 : Int) by omega)
        have hF113 := Fr_g (z := vi) (i := 29) hF100 (by decide)
        have ec114 : ecn A98 ((uG G28 29 (vi)) 31) = ec2_39 := ec111
        refine jx_ld (pc_q := 43) (l_q := L7) (st_q := [.int (i32 (n))]) rfl (jl_iloadn gL7_1) ?_
        refine jx_rt (v := some (.int (i32 (n)))) rfl rfl rfl rfl rfl rfl ?_
        exact ⟨_, _, ln2_31, at2_32, fk2_33, nd2_34, sy2_35, na2_36, vi, lf2_38, r30, ec2_39, rfl, rfl, hW112, hF113, hP102, hX103, hS104, hV105, (e46), (e47), (e48), (e49), (e50), (e51), rfl, (congrFun ((congrFun eA98 3).trans (uA_ne (by decide))) _).trans (e53), (q101), ec114, by omega, by omega, by omega, by omega, by omega, by omega, by omega, by first | exact Or.inr ((⟨by omega, by omega, by omega, by omega, sf106, sf108, by omega, sf107, (NdM_w sf110 (by omega) (by omega) (by omega))⟩))⟩
    · have _q := h6
      exact absurd h6 (by omega)
