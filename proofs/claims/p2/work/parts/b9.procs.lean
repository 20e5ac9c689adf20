def RPw (X : jX) (k : Nat) : Prop := ∀ ⦃dd : Nat⦄ ⦃Vs : Nat → Prop⦄ ⦃sb pb : Int⦄ (hvb : VB Vs sb) ⦃c0 c1 : jC⦄ ⦃G : Nat → Int⦄ ⦃A : Nat → Nat → Int⦄ ⦃T : jH⦄ ⦃lv : Int⦄ ⦃at0 : Int⦄ ⦃ln li fk nd sy na vi lf ac ec : Int⦄ (hd : 8 * k + 80 ≤ dd) (hW : Wk G A) (e_ln : G 9 = ln) (e_li : G 3 = li) (e_fk : G 16 = fk) (e_nd : G 31 = nd) (e_sy : G 19 = sy) (e_na : G 28 = na) (e_vi : G 29 = vi) (e_lf : A 3 (ln).toNat = lf) (e_ac : G 10 = ac) (e_ec : ecn A (G 31) = ec) (i_LT : LT G A) (i_SV : SV Vs sb G A) (i_PQ : PQ Vs sb pb G A) (h_lv : (-2147483648 : Int) ≤ lv ∧ lv ≤ 2147483647) (p_0 : 0 ≤ lv ∧ lv ≤ 40) (p_1 : 18 - lv ≤ (k : Int)) (p_2 : fk = 0) (p_3 : ln ≤ li) (p_4 : at0 < lf ∨ li ≤ ln) (p_5 : nd ≤ 2 * at0 + 32) (p_6 : sy ≤ na + 2) (p_7 : vi ≤ sy) (p_8 : at0 ≤ ac) (p_9 : -1 ≤ at0) (p_10 : sb ≤ sy), wk X dd 292 [.ref 66, .int (i32 lv)] (rV c0 c1 G A T) (fun o V' => ∃ (G' : Nat → Int) (A' : Nat → Nat → Int) (r : Int) (ln2 : Int) (at2 : Int) (fk2 : Int) (nd2 : Int) (sy2 : Int) (na2 : Int) (vi2 : Int) (lf2 : Int) (ec2 : Int), V' = rV c0 c1 G' A' T ∧ o = .inl (some (.int (i32 r))) ∧ Wk G' A' ∧ Fr [9, 10, 11, 12, 13, 14, 15, 16, 17, 18, 19, 28, 29, 31] [6, 7, 8, 9, 10, 11, 12, 14, 15, 16, 17, 18, 19, 20, 21, 22, 23, 24, 28] G A G' A' ∧ Pf nd A A' ∧ Fx sr (sy) A A' ∧ Fx [14] (vi) A A' ∧ ((-2147483648 : Int) ≤ r ∧ r ≤ 2147483647) ∧ G' 9 = ln2 ∧ G' 10 = at2 ∧ G' 16 = fk2 ∧ G' 31 = nd2 ∧ G' 19 = sy2 ∧ G' 28 = na2 ∧ G' 29 = vi2 ∧ A' 3 (ln2).toNat = lf2 ∧ ecn A' (G' 31) = ec2 ∧ (at0 ≤ at2) ∧ (nd ≤ nd2) ∧ (sy ≤ sy2) ∧ (sy2 ≤ na2 + 2) ∧ (vi2 = vi) ∧ (0 ≤ r) ∧ (r ≤ 6999) ∧ (ln ≤ ln2) ∧ (ln2 ≤ li) ∧ (((1 ≤ fk2) ∧ (nd2 - nd ≤ 2 * at2 - 2 * at0 + 12)) ∨ ((fk2 = 0) ∧ (ln < ln2) ∧ (nd2 - nd ≤ 2 * at2 - 2 * at0) ∧ (at2 < lf2 ∨ li ≤ ln2) ∧ (nd ≤ r) ∧ (r < nd2) ∧ (wP A' (sy2) pb (k) (Vs) (r) (nd) (nd2) (sy) (sy2)) ∧ (NX A' (r)) ∧ (nd2 - nd + 5 * (ec2 - ec) ≤ 2 * at2 - 2 * at0))))
set_option maxRecDepth 20000 in
set_option maxHeartbeats 4000000 in
theorem c_readChildren_w_at_6 {X : jX} {k : Nat} (hP : RPw X k) {zz : Int} {d : Nat} {Vs : Nat → Prop} {sb pb : Int} (hvb : VB Vs sb) {c0 c1 : jC} {G : Nat → Int} {A : Nat → Nat → Int} {T : jH} {n lv least mo : Int} {kk aa bb cc de xx : Int} {ln li at0 fk nd sy na vi lf ec : Int} (hd : 8 * k + 81 ≤ d + 1) (hW : Wk G A) (e_ln : G 9 = ln) (e_li : G 3 = li) (e_at0 : G 10 = at0) (e_fk : G 16 = fk) (e_nd : G 31 = nd) (e_sy : G 19 = sy) (e_na : G 28 = na) (e_vi : G 29 = vi) (e_lf : A 3 (ln).toNat = lf) (e_ec : ecn A (G 31) = ec) (i_LT : LT G A) (i_SV : SV Vs sb G A) (i_PQ : PQ Vs sb pb G A) (h_n : (-2147483648 : Int) ≤ n ∧ n ≤ 2147483647) (h_lv : (-2147483648 : Int) ≤ lv ∧ lv ≤ 2147483647) (h_least : (-2147483648 : Int) ≤ least ∧ least ≤ 2147483647) (h_mo : (-2147483648 : Int) ≤ mo ∧ mo ≤ 2147483647) (p_0 : 0 ≤ n ∧ n ≤ 6998) (p_1 : n < nd) (p_2 : 0 ≤ lv ∧ lv ≤ 15) (p_3 : 17 - lv ≤ (k : Int)) (p_4 : fk = 0) (p_5 : ln ≤ li) (p_6 : at0 < lf ∨ li ≤ ln) (p_7 : nd ≤ 2 * at0 + 32) (p_8 : sy ≤ na + 2) (p_9 : vi ≤ sy) (p_10 : 0 ≤ least ∧ least ≤ 2) (p_11 : 0 ≤ mo) (p_12 : zz ≤ n) (p_13 : nd = n + 1) (p_14 : sb ≤ sy) (p_15 : ND A (n) (kk) (aa) (bb) (cc) (de) (0) (xx)) : ∀ (m : Nat) (L : jL) (Gx : Nat → Int) (Ax : Nat → Nat → Int) (last many ln1 at1 fk1 nd1 sy1 na1 vi1 lf1 ec1 : Int), (li - ln1).toNat = m → jGet L 0 = some (.ref 66) → jGet L 1 = some (.int (i32 (n))) → jGet L 2 = some (.int (i32 (lv))) → jGet L 3 = some (.int (i32 (least))) → jGet L 4 = some (.int (i32 (mo))) → jGet L 5 = some (.int (i32 last)) → jGet L 6 = some (.int (i32 many)) → Wk Gx Ax → Fr [9, 10, 11, 12, 13, 14, 15, 16, 17, 18, 19, 28, 29, 31] [6, 7, 8, 9, 10, 11, 12, 14, 15, 16, 17, 18, 19, 20, 21, 22, 23, 24, 28] G A Gx Ax → Pf zz A Ax → Px (n) (nd) A Ax → Fx sr (sy) A Ax → Fx [14] (vi) A Ax → Gx 9 = ln1 → Gx 10 = at1 → Gx 16 = fk1 → Gx 31 = nd1 → Gx 19 = sy1 → Gx 28 = na1 → Gx 29 = vi1 → Ax 3 (ln1).toNat = lf1 → ecn Ax (Gx 31) = ec1 → ((-2147483648 : Int) ≤ last ∧ last ≤ 2147483647) → ((-2147483648 : Int) ≤ many ∧ many ≤ 2147483647) → (fk1 = 0) → (at0 ≤ at1) → (nd ≤ nd1) → (sy ≤ sy1) → (sy1 ≤ na1 + 2) → (vi1 = vi) → (ln ≤ ln1) → (ln1 ≤ li) → (nd1 - nd ≤ 2 * at1 - 2 * at0) → (at1 < lf1 ∨ li ≤ ln1) → (0 ≤ last ∧ last ≤ 6998) → (last = 0 ∨ n < last) → (last < nd1) → (0 ≤ many ∧ many ≤ ln1) → (many ≤ mo) → (ND Ax (n) (kk) (aa) (bb) (cc) (de) (Ax 21 (n).toNat) (xx)) → (CL 0 Ax (sy1) pb (k) (Vs) (n) (last) (many) (n + 1) (nd1) (sy) (sy1)) → (nd1 - nd + 5 * (ec1 - ec) ≤ 2 * at1 - 2 * at0) → wj X d jm296 (6, L, [], rV c0 c1 Gx Ax T) (fun o V' => ∃ (G' : Nat → Int) (A' : Nat → Nat → Int) (ln2 : Int) (at2 : Int) (fk2 : Int) (nd2 : Int) (sy2 : Int) (na2 : Int) (vi2 : Int) (lf2 : Int) (mm : Int) (f2 : Int) (ec2 : Int), V' = rV c0 c1 G' A' T ∧ o = .inl none ∧ Wk G' A' ∧ Fr [9, 10, 11, 12, 13, 14, 15, 16, 17, 18, 19, 28, 29, 31] [6, 7, 8, 9, 10, 11, 12, 14, 15, 16, 17, 18, 19, 20, 21, 22, 23, 24, 28] G A G' A' ∧ Pf zz A A' ∧ Px (n) (nd) A A' ∧ Fx sr (sy) A A' ∧ Fx [14] (vi) A A' ∧ G' 9 = ln2 ∧ G' 10 = at2 ∧ G' 16 = fk2 ∧ G' 31 = nd2 ∧ G' 19 = sy2 ∧ G' 28 = na2 ∧ G' 29 = vi2 ∧ A' 3 (ln2).toNat = lf2 ∧ A' 18 (n).toNat = mm ∧ A' 21 (n).toNat = f2 ∧ ecn A' (G' 31) = ec2 ∧ (at0 ≤ at2) ∧ (nd ≤ nd2) ∧ (sy ≤ sy2) ∧ (sy2 ≤ na2 + 2) ∧ (ln ≤ ln2) ∧ (ln2 ≤ li) ∧ (vi2 = vi) ∧ (((1 ≤ fk2) ∧ (nd2 - nd ≤ 2 * at2 - 2 * at0 + 12)) ∨ ((fk2 = 0) ∧ (nd2 - nd ≤ 2 * at2 - 2 * at0) ∧ (at2 < lf2 ∨ li ≤ ln2) ∧ (least ≤ mm) ∧ (mm ≤ mo) ∧ (ND A' (n) (kk) (aa) (mm) (cc) (de) (f2) (xx)) ∧ (RL 0 A' (sy2) pb (k) (Vs) (n) (mm) (n + 1) (nd2) (sy) (sy2)) ∧ (nd2 - nd + 5 * (ec2 - ec) ≤ 2 * at2 - 2 * at0)))) := by
  have hF0 : Fr [9, 10, 11, 12, 13, 14, 15, 16, 17, 18, 19, 28, 29, 31] [6, 7, 8, 9, 10, 11, 12, 14, 15, 16, 17, 18, 19, 20, 21, 22, 23, 24, 28] G A G A := Fr_rf
  have hP0 : Pf zz A A := Pf_rf
  have hX0 : Px (n) (nd) A A := Px_rf
  have hS0 : Fx sr (sy) A A := Fx_rf
  have hV0 : Fx [14] (vi) A A := Fx_rf
  have b_ln : (0 : Int) ≤ ln ∧ ln ≤ 3000 := e_ln ▸ hW.1 9
  have b_li : (0 : Int) ≤ li ∧ li ≤ 3000 := e_li ▸ hW.1 3
  have b_at0 : (0 : Int) ≤ at0 ∧ at0 ≤ 3002 := e_at0 ▸ hW.1 10
  have b_fk : (0 : Int) ≤ fk ∧ fk ≤ 6 := e_fk ▸ hW.1 16
  have b_nd : (0 : Int) ≤ nd ∧ nd ≤ 6999 := e_nd ▸ hW.1 31
  have b_sy : (0 : Int) ≤ sy ∧ sy ≤ 202 := e_sy ▸ hW.1 19
  have b_na : (0 : Int) ≤ na ∧ na ≤ 200 := e_na ▸ hW.1 28
  have b_vi : (0 : Int) ≤ vi ∧ vi ≤ 202 := e_vi ▸ hW.1 29
  have b_lf : (0 : Int) ≤ lf ∧ lf ≤ 3000 := e_lf ▸ hW.2 3 _
  intro m
  induction m using Nat.strongRecOn with
  | ind m ih6 =>
    intro L Gx Ax last many ln1 at1 fk1 nd1 sy1 na1 vi1 lf1 ec1 hm gL_0 gL_1 gL_2 gL_3 gL_4 gL_5 gL_6 hWx hFx hPx hXx hSx hVx ex_ln1 ex_at1 ex_fk1 ex_nd1 ex_sy1 ex_na1 ex_vi1 ex_lf1 ex_ec1 rx_last rx_many iv_0 iv_1 iv_2 iv_3 iv_4 iv_5 iv_6 iv_7 iv_8 iv_9 iv_10 iv_11 iv_12 iv_13 iv_14 iv_15 iv_16 iv_17
    have b_ln1 : (0 : Int) ≤ ln1 ∧ ln1 ≤ 3000 := ex_ln1 ▸ hWx.1 9
    have b_at1 : (0 : Int) ≤ at1 ∧ at1 ≤ 3002 := ex_at1 ▸ hWx.1 10
    have b_fk1 : (0 : Int) ≤ fk1 ∧ fk1 ≤ 6 := ex_fk1 ▸ hWx.1 16
    have b_nd1 : (0 : Int) ≤ nd1 ∧ nd1 ≤ 6999 := ex_nd1 ▸ hWx.1 31
    have b_sy1 : (0 : Int) ≤ sy1 ∧ sy1 ≤ 202 := ex_sy1 ▸ hWx.1 19
    have b_na1 : (0 : Int) ≤ na1 ∧ na1 ≤ 200 := ex_na1 ▸ hWx.1 28
    have b_vi1 : (0 : Int) ≤ vi1 ∧ vi1 ≤ 202 := ex_vi1 ▸ hWx.1 29
    refine jx_ld (pc' := 7) (l' := L) (st' := [.ref 66]) rfl (jl_aloadn gL_0) ?_
    refine jx_ld (pc' := 8) (l' := L) (st' := [.int (i32 (lv)), .ref 66]) rfl (jl_iloadn gL_2) ?_
    have b1 : (-1 : Int) ≤ A 5 (ln1).toNat ∧ A 5 (ln1).toNat ≤ 15 := hW.2 5 _
    refine jx_vr (pc' := 11) (as := [.int (i32 (lv))]) (st := []) rfl rfl rfl rfl ⟨rfl, rfl, Nat.le_of_ble_eq_true rfl⟩ rfl rfl (c_isBelow (dd := d) (hd := by omega) (hW := hWx) (lv := lv) (ln := ln1) (e_ln := show Gx 9 = ln1 from (ex_ln1)) (li := li) (e_li := show Gx 3 = li from ((hFx.1 3 rfl).trans (e_li))) (fk := fk1) (e_fk := show Gx 16 = fk1 from (ex_fk1)) (ll := A 5 (ln1).toNat) (e_ll := show Ax 5 (ln1).toNat = A 5 (ln1).toNat from (congrFun (hFx.2 5 rfl) _))  (h_lv := ⟨(Int.le_trans (by decide : (-2147483648 : Int) ≤ -2147483648) h_lv.1), (Int.le_trans h_lv.2 (by decide : (2147483647 : Int) ≤ 2147483647))⟩)  (p_0 := by omega)) (fun o V' hq => ?_)
    obtain ⟨G2, A3, r4, fk2_5, rfl, rfl, hW6, hF7, b8, e9, q10⟩ := hq
    have hF11 := Fr_tr hFx hF7 (Fr_sub (by decide)) (Fr_sub (by decide))
    have hP12 := Pf_f hPx hF7 (by decide)
    have hX13 := Px_f hXx hF7 (by decide)
    have hS14 := Fx_f hSx hF7 (by decide)
    have hV15 := Fx_f hVx hF7 (by decide)
    have sf16 : ND A3 (n) (kk) (aa) (bb) (cc) (de) (Ax 21 (n).toNat) (xx) := ND_ag (by omega) (Ag_fr hF7 (by decide)) iv_15
    have sf17 : CL 0 A3 (sy1) pb (k) (Vs) (n) (last) (many) (n + 1) (nd1) (sy) (sy1) := CL_ag (by omega) (by omega) (Sg_fr hF7 (by decide)) (Qg_fr hF7 (by decide)) (Ag_fr hF7 (by decide)) (congrFun (hF7.2 21 rfl) _) iv_16
    have ec18 : ecn A3 (G2 31) = ec1 := (ecn_f (hF7.2 15 rfl) (hF7.1 31 rfl)).trans ex_ec1
    have bfk2_5 : (0 : Int) ≤ fk2_5 ∧ fk2_5 ≤ 6 := e9 ▸ hW6.1 16
    refine .inr ⟨_, rfl, ?_⟩
    rcases q10 with ⟨rfl, a19, a20, a21, a22⟩ | ⟨rfl, a23⟩ | ⟨rfl, a24, a25, a26⟩
    · have _q : True := trivial
      have b27 : (0 : Int) ≤ A 4 (ln1).toNat ∧ A 4 (ln1).toNat ≤ 3000 := hW.2 4 _
      have lt28 : lf1 < A 4 (ln1).toNat := LT_at (LT_ext (((hF7.1 3 rfl).trans (hFx.1 3 rfl))) (((hF7.2 3 rfl).trans (hFx.2 3 rfl))) (((hF7.2 4 rfl).trans (hFx.2 4 rfl))) i_LT) (show G2 3 = li from ((hF7.1 3 rfl).trans ((hFx.1 3 rfl).trans (e_li)))) (show A3 3 (ln1).toNat = lf1 from (congrFun (hF7.2 3 rfl) _).trans (ex_lf1)) (show A3 4 (ln1).toNat = A 4 (ln1).toNat from (congrFun ((hF7.2 4 rfl).trans (hFx.2 4 rfl)) _)) (by omega) (by omega)
      refine jx_if_eq (pc' := 14) (tg := 98) rfl rfl rfl (by decide) (by decide) (fun h29 => ?_) (fun h29 => ?_)
      · have _q := h29
        exact absurd h29 (by omega)
      · have _q := h29
        refine jx_ld (pc' := 16) (l' := L) (st' := [.int (i32 (many))]) rfl (jl_iload gL_6) ?_
        refine jx_ld (pc' := 18) (l' := L) (st' := [.int (i32 (mo)), .int (i32 (many))]) rfl (jl_iload gL_4) ?_
        refine jx_icmp_ne (pc' := 21) (tg := 46) rfl rfl rfl (Int.le_trans (by decide : (-2147483648 : Int) ≤ -2147483648) rx_many.1) (Int.le_trans rx_many.2 (by decide : (2147483647 : Int) ≤ 2147483647)) (Int.le_trans (by decide : (-2147483648 : Int) ≤ -2147483648) h_mo.1) (Int.le_trans h_mo.2 (by decide : (2147483647 : Int) ≤ 2147483647)) (fun h30 => ?_) (fun h30 => ?_)
        · have _q := h30
          refine jx_ld (pc' := 47) (l' := L) (st' := [.ref 66]) rfl (jl_aloadn gL_0) ?_
          refine jx_ld (pc' := 48) (l' := L) (st' := [.int (i32 (lv)), .ref 66]) rfl (jl_iloadn gL_2) ?_
          refine jx_ar (pc' := 49) (st' := [.int (i32 (1)), .int (i32 (lv)), .ref 66]) rfl rfl rfl rfl ?_
          refine jx_add (pc' := 50) rfl rfl ?_
          refine jx_vr (pc' := 53) (as := [.int (i32 ((lv + 1)))]) (st := []) rfl rfl rfl rfl ⟨rfl, rfl, Nat.le_of_ble_eq_true rfl⟩ rfl rfl (hP (dd := d) (hd := by omega) (hW := hW6) (lv := (lv + 1)) (at0 := at1) (ln := ln1) (e_ln := show G2 9 = ln1 from ((hF7.1 9 rfl).trans (ex_ln1))) (li := li) (e_li := show G2 3 = li from ((hF7.1 3 rfl).trans ((hFx.1 3 rfl).trans (e_li)))) (fk := fk2_5) (e_fk := show G2 16 = fk2_5 from (e9)) (nd := nd1) (e_nd := show G2 31 = nd1 from ((hF7.1 31 rfl).trans (ex_nd1))) (sy := sy1) (e_sy := show G2 19 = sy1 from ((hF7.1 19 rfl).trans (ex_sy1))) (na := na1) (e_na := show G2 28 = na1 from ((hF7.1 28 rfl).trans (ex_na1))) (vi := vi1) (e_vi := show G2 29 = vi1 from ((hF7.1 29 rfl).trans (ex_vi1))) (lf := lf1) (e_lf := show A3 3 (ln1).toNat = lf1 from (congrFun (hF7.2 3 rfl) _).trans (ex_lf1)) (ac := at1) (e_ac := show G2 10 = at1 from ((hF7.1 10 rfl).trans (ex_at1))) (ec := ec1) (e_ec := show ecn A3 (G2 31) = ec1 from ec18) (i_LT := (LT_ext (((hF7.1 3 rfl).trans (hFx.1 3 rfl))) (((hF7.2 3 rfl).trans (hFx.2 3 rfl))) (((hF7.2 4 rfl).trans (hFx.2 4 rfl))) i_LT)) (i_SV := (SV_fx i_SV e_vi (show G2 29 = vi1 from ((hF7.1 29 rfl).trans (ex_vi1))) (by omega) hV15)) (i_PQ := (PQ_fx i_PQ hS14 (by omega) (hF11.2 29 rfl) (hF11.2 30 rfl))) (hvb := hvb) (h_lv := ⟨(by omega), (by omega)⟩)  (p_0 := by omega) (p_1 := by omega) (p_2 := by omega) (p_3 := by omega) (p_4 := by omega) (p_5 := by omega) (p_6 := by omega) (p_7 := by omega) (p_8 := by omega) (p_9 := by omega) (p_10 := by omega)) (fun o V' hq => ?_)
          obtain ⟨G31, A32, r33, ln2_34, at2_35, fk2_36, nd2_37, sy2_38, na2_39, vi2_40, lf2_41, ec2_42, rfl, rfl, hW43, hF44, hQ45, hQ46, hQ47, b48, e49, e50, e51, e52, e53, e54, e55, e56, e57, p58, p59, p60, p61, p62, p63, p64, p65, p66, q67⟩ := hq
          have hF68 := Fr_tr hF11 hF44 (Fr_sub (by decide)) (Fr_sub (by decide))
          have hP69 := Pf_tr hP12 hQ45 (by omega)
          have hX70 := Px_p hX13 hQ45 (by omega)
          have hS71 := Fx_tr hS14 hQ46 (by omega)
          have hV72 := Fx_tr hV15 hQ47 (by omega)
          have sf73 : ND A32 (n) (kk) (aa) (bb) (cc) (de) (Ax 21 (n).toNat) (xx) := ND_ag (by omega) (Ag_pf hQ45 (by omega)) sf16
          have sf74 : CL 0 A32 (sy1) pb (k) (Vs) (n) (last) (many) (n + 1) (nd1) (sy) (sy1) := CL_ag (by omega) (by omega) (Fx_su hQ46 (by omega)) (Qg_fr hF44 (by decide)) (Ag_pf hQ45 (by omega)) (hQ45 21 _ rfl (by omega)) sf17
          have bln2_34 : (0 : Int) ≤ ln2_34 ∧ ln2_34 ≤ 3000 := e49 ▸ hW43.1 9
          have bat2_35 : (0 : Int) ≤ at2_35 ∧ at2_35 ≤ 3002 := e50 ▸ hW43.1 10
          have bfk2_36 : (0 : Int) ≤ fk2_36 ∧ fk2_36 ≤ 6 := e51 ▸ hW43.1 16
          have bnd2_37 : (0 : Int) ≤ nd2_37 ∧ nd2_37 ≤ 6999 := e52 ▸ hW43.1 31
          have bsy2_38 : (0 : Int) ≤ sy2_38 ∧ sy2_38 ≤ 202 := e53 ▸ hW43.1 19
          have bna2_39 : (0 : Int) ≤ na2_39 ∧ na2_39 ≤ 200 := e54 ▸ hW43.1 28
          have bvi2_40 : (0 : Int) ≤ vi2_40 ∧ vi2_40 ≤ 202 := e55 ▸ hW43.1 29
          have blf2_41 : (0 : Int) ≤ lf2_41 ∧ lf2_41 ≤ 3000 := e56 ▸ hW43.2 3 _
          refine .inr ⟨_, rfl, ?_⟩
          rcases q67 with ⟨a75, a76⟩ | ⟨a77, a78, a79, a80, a81, a82, a83, a84, a85⟩
          · have _q : True := trivial
            refine jx_ld (pc' := 55) (l' := jSto1 L 7 (.int (i32 (r33)))) (st' := []) rfl rfl ?_
            obtain ⟨L86, eL86⟩ : ∃ q, q = jSto1 L 7 (.int (i32 (r33))) := ⟨_, rfl⟩
            rw [← eL86]
            have gL86_0 : jGet L86 0 = some (.ref 66) := eL86 ▸ jg_ne (by decide) gL_0 rfl
            have gL86_1 : jGet L86 1 = some (.int (i32 (n))) := eL86 ▸ jg_ne (by decide) gL_1 rfl
            have gL86_2 : jGet L86 2 = some (.int (i32 (lv))) := eL86 ▸ jg_ne (by decide) gL_2 rfl
            have gL86_3 : jGet L86 3 = some (.int (i32 (least))) := eL86 ▸ jg_ne (by decide) gL_3 rfl
            have gL86_4 : jGet L86 4 = some (.int (i32 (mo))) := eL86 ▸ jg_ne (by decide) gL_4 rfl
            have gL86_5 : jGet L86 5 = some (.int (i32 (last))) := eL86 ▸ jg_ne (by decide) gL_5 rfl
            have gL86_6 : jGet L86 6 = some (.int (i32 (many))) := eL86 ▸ jg_ne (by decide) gL_6 rfl
            have gL86_7 : jGet L86 7 = some (.int (i32 (r33))) := eL86 ▸ jg_eq
            refine jx_ld (pc' := 56) (l' := L86) (st' := [.ref 66]) rfl (jl_aloadn gL86_0) ?_
            refine jx_vr (pc' := 59) (as := []) (st := []) rfl rfl rfl rfl ⟨rfl, rfl, Nat.le_of_ble_eq_true rfl⟩ rfl rfl (c_bad (dd := d) (hd := by omega) (hW := hW43)  (fk := fk2_36) (e_fk := show G31 16 = fk2_36 from (e51))    ) (fun o V' hq => ?_)
            obtain ⟨r87, rfl, rfl, b88, q89⟩ := hq
            refine .inr ⟨_, rfl, ?_⟩
            rcases q89 with ⟨rfl, a90⟩ | ⟨rfl, a91⟩
            · have _q : True := trivial
              refine jx_if_eq (pc' := 62) (tg := 63) rfl rfl rfl (by decide) (by decide) (fun h92 => ?_) (fun h92 => ?_)
              · have _q := h92
                exact absurd h92 (by omega)
              · have _q := h92
                refine jx_rt (v := none) rfl rfl rfl rfl rfl rfl ?_
                exact ⟨_, _, ln2_34, at2_35, fk2_36, nd2_37, sy2_38, na2_39, vi2_40, lf2_41, A32 18 (n).toNat, A32 21 (n).toNat, ec2_42, rfl, rfl, hW43, hF68, hP69, hX70, hS71, hV72, (e49), (e50), (e51), (e52), (e53), (e54), (e55), (e56), rfl, rfl, e57, by omega, by omega, by omega, by omega, by omega, by omega, by omega, by first | exact Or.inl (⟨by omega, by omega⟩)⟩
            · have _q : True := trivial
              exfalso
              omega
          · have _q : True := trivial
            refine jx_ld (pc' := 55) (l' := jSto1 L 7 (.int (i32 (r33)))) (st' := []) rfl rfl ?_
            obtain ⟨L93, eL93⟩ : ∃ q, q = jSto1 L 7 (.int (i32 (r33))) := ⟨_, rfl⟩
            rw [← eL93]
            have gL93_0 : jGet L93 0 = some (.ref 66) := eL93 ▸ jg_ne (by decide) gL_0 rfl
            have gL93_1 : jGet L93 1 = some (.int (i32 (n))) := eL93 ▸ jg_ne (by decide) gL_1 rfl
            have gL93_2 : jGet L93 2 = some (.int (i32 (lv))) := eL93 ▸ jg_ne (by decide) gL_2 rfl
            have gL93_3 : jGet L93 3 = some (.int (i32 (least))) := eL93 ▸ jg_ne (by decide) gL_3 rfl
            have gL93_4 : jGet L93 4 = some (.int (i32 (mo))) := eL93 ▸ jg_ne (by decide) gL_4 rfl
            have gL93_5 : jGet L93 5 = some (.int (i32 (last))) := eL93 ▸ jg_ne (by decide) gL_5 rfl
            have gL93_6 : jGet L93 6 = some (.int (i32 (many))) := eL93 ▸ jg_ne (by decide) gL_6 rfl
            have gL93_7 : jGet L93 7 = some (.int (i32 (r33))) := eL93 ▸ jg_eq
            refine jx_ld (pc' := 56) (l' := L93) (st' := [.ref 66]) rfl (jl_aloadn gL93_0) ?_
            refine jx_vr (pc' := 59) (as := []) (st := []) rfl rfl rfl rfl ⟨rfl, rfl, Nat.le_of_ble_eq_true rfl⟩ rfl rfl (c_bad (dd := d) (hd := by omega) (hW := hW43)  (fk := fk2_36) (e_fk := show G31 16 = fk2_36 from (e51))    ) (fun o V' hq => ?_)
            obtain ⟨r94, rfl, rfl, b95, q96⟩ := hq
            refine .inr ⟨_, rfl, ?_⟩
            rcases q96 with ⟨rfl, a97⟩ | ⟨rfl, a98⟩
            · have _q : True := trivial
              exfalso
              omega
            · have _q : True := trivial
              refine jx_if_eq (pc' := 62) (tg := 63) rfl rfl rfl (by decide) (by decide) (fun h99 => ?_) (fun h99 => ?_)
              · have _q := h99
                refine jx_ld (pc' := 65) (l' := L93) (st' := [.int (i32 (last))]) rfl (jl_iload gL93_5) ?_
                refine jx_if_ne (pc' := 68) (tg := 79) rfl rfl rfl (Int.le_trans (by decide : (-2147483648 : Int) ≤ -2147483648) rx_last.1) (Int.le_trans rx_last.2 (by decide : (2147483647 : Int) ≤ 2147483647)) (fun h100 => ?_) (fun h100 => ?_)
                · have _q := h100
                  refine jx_ld (pc' := 80) (l' := L93) (st' := [.ref 66]) rfl (jl_aloadn gL93_0) ?_
                  refine jr_get (pc' := 83) (i := 39) (v := .ref 89) rfl rfl (by decide) rfl rfl ?_
                  refine jx_ld (pc' := 85) (l' := L93) (st' := [.int (i32 (last)), .ref 89]) rfl (jl_iload gL93_5) ?_
                  refine jx_ld (pc' := 87) (l' := L93) (st' := [.int (i32 (r33)), .int (i32 (last)), .ref 89]) rfl (jl_iload gL93_7) ?_
                  refine jr_st (pc' := 88) (i := 22) (m := 7000) (z := last) (y := r33) rfl (by decide) rfl (by decide) (by omega) (by omega) rfl ?_
                  have hW102 : Wk G31 (uA A32 22 (last).toNat (r33)) := Wk_a hW43 (show (-2147483648 : Int) ≤ r33 by omega) (show r33 ≤ (2147483647 : Int) by omega)
                  have hF103 := Fr_a (z := r33) (k := 22) (n := (last).toNat) hF68 (by decide)
                  obtain ⟨A101, eA101⟩ : ∃ q, q = uA A32 22 (last).toNat (r33) := ⟨_, rfl⟩
                  rw [← eA101]
                  rw [← eA101] at hW102 hF103
                  have q104 : A101 22 (last).toNat = r33 := by rw [eA101]; exact uA_eq
                  have hP105 : Pf zz A A101 := eA101 ▸ Pf_a hP69 (z := last) (by omega) (by omega)
                  have hX106 : Px (n) (nd) A A101 := eA101 ▸ Px_a hX70 (z := last) (by omega) (by omega)
                  have hS107 : Fx sr (sy) A A101 := eA101 ▸ Fx_n hS71 rfl
                  have hV108 : Fx [14] (vi) A A101 := eA101 ▸ Fx_n hV72 rfl
                  have sf109 : ND A101 (n) (kk) (aa) (bb) (cc) (de) (Ax 21 (n).toNat) (xx) := ND_ag (by omega) (Ag_st eA101 (by omega) (by omega)) sf73
                  have sf110 : CL 0 A101 (sy2_38) pb (k) (Vs) (n) (r33) (many + 1) (n + 1) (nd2_37) (sy) (sy2_38) := CL_two eA101 (by omega) (by omega) (by omega) (by omega) (by omega) (show RQ 0 A32 (sy2_38) pb (k) (Vs) (r33) (nd1) (nd2_37) (sy1) (sy2_38) from wP_eq a83 (by omega) rfl rfl (by omega) rfl (by omega) rfl (by omega)) a84 (CL_sb (by omega) sf74)
                  have sf111 : wP A101 (sy2_38) pb (k) (Vs) (r33) (nd1) (nd2_37) (sy1) (sy2_38) := wP_ag (Sg_ne eA101 rfl) (Qg_ne eA101 rfl) (by omega) (by omega) (Ax_ag (Ag_st eA101 (by omega) (by omega))) a83
                  have sf112 : NX A101 (r33) := NX_ag (by omega) (Ag_st eA101 (by omega) (by omega)) a84
                  have ec113 : ecn A101 (G31 31) = ec2_42 := (ecn_e ((congrFun eA101 15).trans (uA_ne (by decide)))).trans e57
                  refine jx_ld (pc' := 90) (l' := L93) (st' := [.int (i32 (r33))]) rfl (jl_iload gL93_7) ?_
                  refine jx_ld (pc' := 92) (l' := jSto1 L93 5 (.int (i32 (r33)))) (st' := []) rfl rfl ?_
                  obtain ⟨L114, eL114⟩ : ∃ q, q = jSto1 L93 5 (.int (i32 (r33))) := ⟨_, rfl⟩
                  rw [← eL114]
                  have gL114_0 : jGet L114 0 = some (.ref 66) := eL114 ▸ jg_ne (by decide) gL93_0 rfl
                  have gL114_1 : jGet L114 1 = some (.int (i32 (n))) := eL114 ▸ jg_ne (by decide) gL93_1 rfl
                  have gL114_2 : jGet L114 2 = some (.int (i32 (lv))) := eL114 ▸ jg_ne (by decide) gL93_2 rfl
                  have gL114_3 : jGet L114 3 = some (.int (i32 (least))) := eL114 ▸ jg_ne (by decide) gL93_3 rfl
                  have gL114_4 : jGet L114 4 = some (.int (i32 (mo))) := eL114 ▸ jg_ne (by decide) gL93_4 rfl
                  have gL114_6 : jGet L114 6 = some (.int (i32 (many))) := eL114 ▸ jg_ne (by decide) gL93_6 rfl
                  have gL114_7 : jGet L114 7 = some (.int (i32 (r33))) := eL114 ▸ jg_ne (by decide) gL93_7 rfl
                  have gL114_5 : jGet L114 5 = some (.int (i32 (r33))) := eL114 ▸ jg_eq
                  refine jx_inc (pc' := 95) (l' := jSto1 L114 6 (.int (i32 ((many + (1)))))) (x := many) rfl gL114_6 (by decide) rfl rfl ?_
                  obtain ⟨L115, eL115⟩ : ∃ q, q = jSto1 L114 6 (.int (i32 ((many + (1))))) := ⟨_, rfl⟩
                  rw [← eL115]
                  have gL115_0 : jGet L115 0 = some (.ref 66) := eL115 ▸ jg_ne (by decide) gL114_0 rfl
                  have gL115_1 : jGet L115 1 = some (.int (i32 (n))) := eL115 ▸ jg_ne (by decide) gL114_1 rfl
                  have gL115_2 : jGet L115 2 = some (.int (i32 (lv))) := eL115 ▸ jg_ne (by decide) gL114_2 rfl
                  have gL115_3 : jGet L115 3 = some (.int (i32 (least))) := eL115 ▸ jg_ne (by decide) gL114_3 rfl
                  have gL115_4 : jGet L115 4 = some (.int (i32 (mo))) := eL115 ▸ jg_ne (by decide) gL114_4 rfl
                  have gL115_7 : jGet L115 7 = some (.int (i32 (r33))) := eL115 ▸ jg_ne (by decide) gL114_7 rfl
                  have gL115_5 : jGet L115 5 = some (.int (i32 (r33))) := eL115 ▸ jg_ne (by decide) gL114_5 rfl
                  have gL115_6 : jGet L115 6 = some (.int (i32 ((many + (1))))) := eL115 ▸ jg_eq
                  refine jx_go (tg := 6) rfl rfl ?_
                  exact ih6 _ (by omega) L115 G31 A101 (r33) ((many + (1))) (ln2_34) (at2_35) (fk2_36) (nd2_37) (sy2_38) (na2_39) (vi2_40) (lf2_41) (ec2_42) rfl gL115_0 gL115_1 gL115_2 gL115_3 gL115_4 gL115_5 gL115_6 hW102 hF103 hP105 hX106 hS107 hV108 ((e49)) ((e50)) ((e51)) ((e52)) ((e53)) ((e54)) ((e55)) ((congrFun ((congrFun eA101 3).trans (uA_ne (by decide))) _).trans (e56)) (ec113) (by omega) (by omega) (by omega) (by omega) (by omega) (by omega) (by omega) (by omega) (by omega) (by omega) (by omega) (by omega) (by omega) (by omega) (by omega) (by omega) (by omega) ((ND_sf sf109)) ((CL_eq (CL_sb (by omega) sf110) (by omega) (by omega) (by omega) (by omega) (by omega) (by omega))) (by omega)
                · have _q := h100
                  refine jx_ld (pc' := 69) (l' := L93) (st' := [.ref 66]) rfl (jl_aloadn gL93_0) ?_
                  refine jr_get (pc' := 72) (i := 38) (v := .ref 88) rfl rfl (by decide) rfl rfl ?_
                  refine jx_ld (pc' := 73) (l' := L93) (st' := [.int (i32 (n)), .ref 88]) rfl (jl_iloadn gL93_1) ?_
                  refine jx_ld (pc' := 75) (l' := L93) (st' := [.int (i32 (r33)), .int (i32 (n)), .ref 88]) rfl (jl_iload gL93_7) ?_
                  refine jr_st (pc' := 76) (i := 21) (m := 7000) (z := n) (y := r33) rfl (by decide) rfl (by decide) (by omega) (by omega) rfl ?_
                  have hW117 : Wk G31 (uA A32 21 (n).toNat (r33)) := Wk_a hW43 (show (-2147483648 : Int) ≤ r33 by omega) (show r33 ≤ (2147483647 : Int) by omega)
                  have hF118 := Fr_a (z := r33) (k := 21) (n := (n).toNat) hF68 (by decide)
                  obtain ⟨A116, eA116⟩ : ∃ q, q = uA A32 21 (n).toNat (r33) := ⟨_, rfl⟩
                  rw [← eA116]
                  rw [← eA116] at hW117 hF118
                  have q119 : A116 21 (n).toNat = r33 := by rw [eA116]; exact uA_eq
                  have hP120 : Pf zz A A116 := eA116 ▸ Pf_a hP69 (z := n) (by omega) (by omega)
                  have hX121 : Px (n) (nd) A A116 := eA116 ▸ Px_a hX70 (z := n) (by omega) (by omega)
                  have hS122 : Fx sr (sy) A A116 := eA116 ▸ Fx_n hS71 rfl
                  have hV123 : Fx [14] (vi) A A116 := eA116 ▸ Fx_n hV72 rfl
                  have sf124 : ND A116 (n) (kk) (aa) (bb) (cc) (de) (r33) (xx) := ND_f eA116 sf73
                  have sf125 : CL 0 A116 (sy2_38) pb (k) (Vs) (n) (r33) (many + 1) (n + 1) (nd2_37) (sy) (sy2_38) := CL_one eA116 (by omega) (by omega) (by omega) (by omega) (by omega) (by omega) (show RQ 0 A32 (sy2_38) pb (k) (Vs) (r33) (nd1) (nd2_37) (sy1) (sy2_38) from wP_eq a83 (by omega) rfl rfl (by omega) rfl (by omega) rfl (by omega)) a84 (CL_sb (by omega) sf74)
                  have sf126 : wP A116 (sy2_38) pb (k) (Vs) (r33) (nd1) (nd2_37) (sy1) (sy2_38) := wP_ag (Sg_ne eA116 rfl) (Qg_ne eA116 rfl) (by omega) (by omega) (Ax_ag (Ag_st eA116 (by omega) (by omega))) a83
                  have sf127 : NX A116 (r33) := NX_r eA116 (by decide) a84
                  have ec128 : ecn A116 (G31 31) = ec2_42 := (ecn_e ((congrFun eA116 15).trans (uA_ne (by decide)))).trans e57
                  refine jx_go (tg := 88) rfl rfl ?_
                  refine jx_ld (pc' := 90) (l' := L93) (st' := [.int (i32 (r33))]) rfl (jl_iload gL93_7) ?_
                  refine jx_ld (pc' := 92) (l' := jSto1 L93 5 (.int (i32 (r33)))) (st' := []) rfl rfl ?_
                  obtain ⟨L129, eL129⟩ : ∃ q, q = jSto1 L93 5 (.int (i32 (r33))) := ⟨_, rfl⟩
                  rw [← eL129]
                  have gL129_0 : jGet L129 0 = some (.ref 66) := eL129 ▸ jg_ne (by decide) gL93_0 rfl
                  have gL129_1 : jGet L129 1 = some (.int (i32 (n))) := eL129 ▸ jg_ne (by decide) gL93_1 rfl
                  have gL129_2 : jGet L129 2 = some (.int (i32 (lv))) := eL129 ▸ jg_ne (by decide) gL93_2 rfl
                  have gL129_3 : jGet L129 3 = some (.int (i32 (least))) := eL129 ▸ jg_ne (by decide) gL93_3 rfl
                  have gL129_4 : jGet L129 4 = some (.int (i32 (mo))) := eL129 ▸ jg_ne (by decide) gL93_4 rfl
                  have gL129_6 : jGet L129 6 = some (.int (i32 (many))) := eL129 ▸ jg_ne (by decide) gL93_6 rfl
                  have gL129_7 : jGet L129 7 = some (.int (i32 (r33))) := eL129 ▸ jg_ne (by decide) gL93_7 rfl
                  have gL129_5 : jGet L129 5 = some (.int (i32 (r33))) := eL129 ▸ jg_eq
                  refine jx_inc (pc' := 95) (l' := jSto1 L129 6 (.int (i32 ((many + (1)))))) (x := many) rfl gL129_6 (by decide) rfl rfl ?_
                  obtain ⟨L130, eL130⟩ : ∃ q, q = jSto1 L129 6 (.int (i32 ((many + (1))))) := ⟨_, rfl⟩
                  rw [← eL130]
                  have gL130_0 : jGet L130 0 = some (.ref 66) := eL130 ▸ jg_ne (by decide) gL129_0 rfl
                  have gL130_1 : jGet L130 1 = some (.int (i32 (n))) := eL130 ▸ jg_ne (by decide) gL129_1 rfl
                  have gL130_2 : jGet L130 2 = some (.int (i32 (lv))) := eL130 ▸ jg_ne (by decide) gL129_2 rfl
                  have gL130_3 : jGet L130 3 = some (.int (i32 (least))) := eL130 ▸ jg_ne (by decide) gL129_3 rfl
                  have gL130_4 : jGet L130 4 = some (.int (i32 (mo))) := eL130 ▸ jg_ne (by decide) gL129_4 rfl
                  have gL130_7 : jGet L130 7 = some (.int (i32 (r33))) := eL130 ▸ jg_ne (by decide) gL129_7 rfl
                  have gL130_5 : jGet L130 5 = some (.int (i32 (r33))) := eL130 ▸ jg_ne (by decide) gL129_5 rfl
                  have gL130_6 : jGet L130 6 = some (.int (i32 ((many + (1))))) := eL130 ▸ jg_eq
                  refine jx_go (tg := 6) rfl rfl ?_
                  exact ih6 _ (by omega) L130 G31 A116 (r33) ((many + (1))) (ln2_34) (at2_35) (fk2_36) (nd2_37) (sy2_38) (na2_39) (vi2_40) (lf2_41) (ec2_42) rfl gL130_0 gL130_1 gL130_2 gL130_3 gL130_4 gL130_5 gL130_6 hW117 hF118 hP120 hX121 hS122 hV123 ((e49)) ((e50)) ((e51)) ((e52)) ((e53)) ((e54)) ((e55)) ((congrFun ((congrFun eA116 3).trans (uA_ne (by decide))) _).trans (e56)) (ec128) (by omega) (by omega) (by omega) (by omega) (by omega) (by omega) (by omega) (by omega) (by omega) (by omega) (by omega) (by omega) (by omega) (by omega) (by omega) (by omega) (by omega) ((ND_sf sf124)) ((CL_eq (CL_sb (by omega) sf125) (by omega) (by omega) (by omega) (by omega) (by omega) (by omega))) (by omega)
              · have _q := h99
                exact absurd h99 (by omega)
        · have _q := h30
          refine jx_ld (pc' := 22) (l' := L) (st' := [.ref 66]) rfl (jl_aloadn gL_0) ?_
          refine jx_ar (pc' := 23) (st' := [.int (i32 (1)), .ref 66]) rfl rfl rfl rfl ?_
          refine jx_ld (pc' := 24) (l' := L) (st' := [.ref 66, .int (i32 (1)), .ref 66]) rfl (jl_aloadn gL_0) ?_
          refine jr_get (pc' := 27) (i := 6) (v := .ref 70) rfl rfl (by decide) rfl rfl ?_
          refine jx_ld (pc' := 28) (l' := L) (st' := [.ref 66, .ref 70, .int (i32 (1)), .ref 66]) rfl (jl_aloadn gL_0) ?_
          refine jr_get (pc' := 31) (i := 9) (v := .int (i32 (ln1))) rfl rfl (by decide) (rFv_eq (by decide) (show G2 9 = ln1 from ((hF7.1 9 rfl).trans (ex_ln1)))) rfl ?_
          refine jr_ldv (pc' := 32) (i := 3) (m := 3001) (z := ln1) (y := lf1) rfl (by decide) rfl (by decide) (Int.le_trans (by decide : (0 : Int) ≤ 0) b_ln1.1) (Int.lt_of_le_of_lt b_ln1.2 (by decide : (3000 : Int) < ((3001 : Nat) : Int))) rfl (show A3 3 (ln1).toNat = lf1 from (congrFun (hF7.2 3 rfl) _).trans (ex_lf1)) ?_
          refine jx_ld (pc' := 33) (l' := L) (st' := [.ref 66, .int (i32 (lf1)), .int (i32 (1)), .ref 66]) rfl (jl_aloadn gL_0) ?_
          refine jr_get (pc' := 36) (i := 5) (v := .ref 69) rfl rfl (by decide) rfl rfl ?_
          refine jx_ld (pc' := 37) (l' := L) (st' := [.ref 66, .ref 69, .int (i32 (lf1)), .int (i32 (1)), .ref 66]) rfl (jl_aloadn gL_0) ?_
          refine jr_get (pc' := 40) (i := 9) (v := .int (i32 (ln1))) rfl rfl (by decide) (rFv_eq (by decide) (show G2 9 = ln1 from ((hF7.1 9 rfl).trans (ex_ln1)))) rfl ?_
          have b131 : (0 : Int) ≤ A 2 (ln1).toNat ∧ A 2 (ln1).toNat ≤ 3000 := hW.2 2 _
          refine jr_ldv (pc' := 41) (i := 2) (m := 3001) (z := ln1) (y := A 2 (ln1).toNat) rfl (by decide) rfl (by decide) (Int.le_trans (by decide : (0 : Int) ≤ 0) b_ln1.1) (Int.lt_of_le_of_lt b_ln1.2 (by decide : (3000 : Int) < ((3001 : Nat) : Int))) rfl (show A3 2 (ln1).toNat = A 2 (ln1).toNat from (congrFun ((hF7.2 2 rfl).trans (hFx.2 2 rfl)) _)) ?_
          refine jx_sub (pc' := 42) rfl rfl ?_
          refine jx_vr (pc' := 45) (as := [.int (i32 (1)), .int (i32 ((lf1 - A 2 (ln1).toNat)))]) (st := []) rfl rfl rfl rfl ⟨rfl, rfl, Nat.le_of_ble_eq_true rfl⟩ rfl rfl (c_fail (dd := d) (hd := by omega) (hW := hW6) (kind := 1) (place := (lf1 - A 2 (ln1).toNat)) (fk := fk2_5) (e_fk := show G2 16 = fk2_5 from (e9))  (h_kind := ⟨(by decide), (by decide)⟩) (h_place := ⟨(by omega), (by omega)⟩)  (p_0 := by omega) (p_1 := by omega)) (fun o V' hq => ?_)
          obtain ⟨G132, A133, fk2_134, rfl, rfl, hW135, hF136, e137, p138, -⟩ := hq
          have hF140 := Fr_tr hF11 hF136 (Fr_sub (by decide)) (Fr_sub (by decide))
          have hP141 := Pf_f hP12 hF136 (by decide)
          have hX142 := Px_f hX13 hF136 (by decide)
          have hS143 := Fx_f hS14 hF136 (by decide)
          have hV144 := Fx_f hV15 hF136 (by decide)
          have sf145 : ND A133 (n) (kk) (aa) (bb) (cc) (de) (Ax 21 (n).toNat) (xx) := ND_ag (by omega) (Ag_fr hF136 (by decide)) sf16
          have sf146 : CL 0 A133 (sy1) pb (k) (Vs) (n) (last) (many) (n + 1) (nd1) (sy) (sy1) := CL_ag (by omega) (by omega) (Sg_fr hF136 (by decide)) (Qg_fr hF136 (by decide)) (Ag_fr hF136 (by decide)) (congrFun (hF136.2 21 rfl) _) sf17
          have ec147 : ecn A133 (G132 31) = ec1 := (ecn_f (hF136.2 15 rfl) (hF136.1 31 rfl)).trans ec18
          have bfk2_134 : (0 : Int) ≤ fk2_134 ∧ fk2_134 ≤ 6 := e137 ▸ hW135.1 16
          refine .inl ⟨rfl, ?_⟩
          refine jx_rt (v := none) rfl rfl rfl rfl rfl rfl ?_
          exact ⟨_, _, ln1, at1, fk2_134, nd1, sy1, na1, vi1, lf1, Ax 18 (n).toNat, Ax 21 (n).toNat, ec1, rfl, rfl, hW135, hF140, hP141, hX142, hS143, hV144, ((hF136.1 9 rfl).trans ((hF7.1 9 rfl).trans (ex_ln1))), ((hF136.1 10 rfl).trans ((hF7.1 10 rfl).trans (ex_at1))), (e137), ((hF136.1 31 rfl).trans ((hF7.1 31 rfl).trans (ex_nd1))), ((hF136.1 19 rfl).trans ((hF7.1 19 rfl).trans (ex_sy1))), ((hF136.1 28 rfl).trans ((hF7.1 28 rfl).trans (ex_na1))), ((hF136.1 29 rfl).trans ((hF7.1 29 rfl).trans (ex_vi1))), (congrFun ((hF136.2 3 rfl).trans (hF7.2 3 rfl)) _).trans (ex_lf1), (congrFun ((hF136.2 18 rfl).trans (hF7.2 18 rfl)) _), (congrFun ((hF136.2 21 rfl).trans (hF7.2 21 rfl)) _), ec147, by omega, by omega, by omega, by omega, by omega, by omega, by omega, by first | exact Or.inl (⟨by omega, by omega⟩)⟩
    · have _q : True := trivial
      refine jx_if_eq (pc' := 14) (tg := 98) rfl rfl rfl (by decide) (by decide) (fun h148 => ?_) (fun h148 => ?_)
      · have _q := h148
        refine jx_ld (pc' := 99) (l' := L) (st' := [.ref 66]) rfl (jl_aloadn gL_0) ?_
        refine jx_vr (pc' := 102) (as := []) (st := []) rfl rfl rfl rfl ⟨rfl, rfl, Nat.le_of_ble_eq_true rfl⟩ rfl rfl (c_bad (dd := d) (hd := by omega) (hW := hW6)  (fk := fk2_5) (e_fk := show G2 16 = fk2_5 from (e9))    ) (fun o V' hq => ?_)
        obtain ⟨r149, rfl, rfl, b150, q151⟩ := hq
        refine .inr ⟨_, rfl, ?_⟩
        rcases q151 with ⟨rfl, a152⟩ | ⟨rfl, a153⟩
        · have _q : True := trivial
          refine jx_if_ne (pc' := 105) (tg := 119) rfl rfl rfl (by decide) (by decide) (fun h154 => ?_) (fun h154 => ?_)
          · have _q := h154
            refine jx_ld (pc' := 120) (l' := L) (st' := [.ref 66]) rfl (jl_aloadn gL_0) ?_
            refine jr_get (pc' := 123) (i := 35) (v := .ref 85) rfl rfl (by decide) rfl rfl ?_
            refine jx_ld (pc' := 124) (l' := L) (st' := [.int (i32 (n)), .ref 85]) rfl (jl_iloadn gL_1) ?_
            refine jx_ld (pc' := 126) (l' := L) (st' := [.int (i32 (many)), .int (i32 (n)), .ref 85]) rfl (jl_iload gL_6) ?_
            refine jr_st (pc' := 127) (i := 18) (m := 7000) (z := n) (y := many) rfl (by decide) rfl (by decide) (by omega) (by omega) rfl ?_
            have hW156 : Wk G2 (uA A3 18 (n).toNat (many)) := Wk_a hW6 (show (-2147483648 : Int) ≤ many by omega) (show many ≤ (2147483647 : Int) by omega)
            have hF157 := Fr_a (z := many) (k := 18) (n := (n).toNat) hF11 (by decide)
            obtain ⟨A155, eA155⟩ : ∃ q, q = uA A3 18 (n).toNat (many) := ⟨_, rfl⟩
            rw [← eA155]
            rw [← eA155] at hW156 hF157
            have q158 : A155 18 (n).toNat = many := by rw [eA155]; exact uA_eq
            have hP159 : Pf zz A A155 := eA155 ▸ Pf_a hP12 (z := n) (by omega) (by omega)
            have hX160 : Px (n) (nd) A A155 := eA155 ▸ Px_a hX13 (z := n) (by omega) (by omega)
            have hS161 : Fx sr (sy) A A155 := eA155 ▸ Fx_n hS14 rfl
            have hV162 : Fx [14] (vi) A A155 := eA155 ▸ Fx_n hV15 rfl
            have sf163 : ND A155 (n) (kk) (aa) (many) (cc) (de) (Ax 21 (n).toNat) (xx) := ND_b eA155 sf16
            have sf164 : CL 0 A155 (sy1) pb (k) (Vs) (n) (last) (many) (n + 1) (nd1) (sy) (sy1) := CL_ag (by omega) (by omega) (Sg_ne eA155 rfl) (Qg_ne eA155 rfl) (Ag_st eA155 (by omega) (by omega)) ((congrFun ((congrFun eA155 21).trans (uA_ne (by decide))) _)) sf17
            have ec165 : ecn A155 (G2 31) = ec1 := (ecn_e ((congrFun eA155 15).trans (uA_ne (by decide)))).trans ec18
            refine jx_rt (v := none) rfl rfl rfl rfl rfl rfl ?_
            exact ⟨_, _, ln1, at1, fk2_5, nd1, sy1, na1, vi1, lf1, many, Ax 21 (n).toNat, ec1, rfl, rfl, hW156, hF157, hP159, hX160, hS161, hV162, ((hF7.1 9 rfl).trans (ex_ln1)), ((hF7.1 10 rfl).trans (ex_at1)), (e9), ((hF7.1 31 rfl).trans (ex_nd1)), ((hF7.1 19 rfl).trans (ex_sy1)), ((hF7.1 28 rfl).trans (ex_na1)), ((hF7.1 29 rfl).trans (ex_vi1)), (congrFun (((congrFun eA155 3).trans (uA_ne (by decide))).trans (hF7.2 3 rfl)) _).trans (ex_lf1), (q158), (congrFun (((congrFun eA155 21).trans (uA_ne (by decide))).trans (hF7.2 21 rfl)) _), ec165, by omega, by omega, by omega, by omega, by omega, by omega, by omega, by first | exact Or.inl (⟨by omega, by omega⟩)⟩
          · have _q := h154
            exact absurd h154 (by omega)
        · have _q : True := trivial
          exfalso
          omega
      · have _q := h148
        exact absurd h148 (by omega)
    · have _q : True := trivial
      refine jx_if_eq (pc' := 14) (tg := 98) rfl rfl rfl (by decide) (by decide) (fun h166 => ?_) (fun h166 => ?_)
      · have _q := h166
        refine jx_ld (pc' := 99) (l' := L) (st' := [.ref 66]) rfl (jl_aloadn gL_0) ?_
        refine jx_vr (pc' := 102) (as := []) (st := []) rfl rfl rfl rfl ⟨rfl, rfl, Nat.le_of_ble_eq_true rfl⟩ rfl rfl (c_bad (dd := d) (hd := by omega) (hW := hW6)  (fk := fk2_5) (e_fk := show G2 16 = fk2_5 from (e9))    ) (fun o V' hq => ?_)
        obtain ⟨r167, rfl, rfl, b168, q169⟩ := hq
        refine .inr ⟨_, rfl, ?_⟩
        rcases q169 with ⟨rfl, a170⟩ | ⟨rfl, a171⟩
        · have _q : True := trivial
          exfalso
          omega
        · have _q : True := trivial
          refine jx_if_ne (pc' := 105) (tg := 119) rfl rfl rfl (by decide) (by decide) (fun h172 => ?_) (fun h172 => ?_)
          · have _q := h172
            exact absurd h172 (by omega)
          · have _q := h172
            refine jx_ld (pc' := 107) (l' := L) (st' := [.int (i32 (many))]) rfl (jl_iload gL_6) ?_
            refine jx_ld (pc' := 108) (l' := L) (st' := [.int (i32 (least)), .int (i32 (many))]) rfl (jl_iloadn gL_3) ?_
            refine jx_icmp_ge (pc' := 111) (tg := 119) rfl rfl rfl (Int.le_trans (by decide : (-2147483648 : Int) ≤ -2147483648) rx_many.1) (Int.le_trans rx_many.2 (by decide : (2147483647 : Int) ≤ 2147483647)) (Int.le_trans (by decide : (-2147483648 : Int) ≤ -2147483648) h_least.1) (Int.le_trans h_least.2 (by decide : (2147483647 : Int) ≤ 2147483647)) (fun h173 => ?_) (fun h173 => ?_)
            · have _q := h173
              refine jx_ld (pc' := 120) (l' := L) (st' := [.ref 66]) rfl (jl_aloadn gL_0) ?_
              refine jr_get (pc' := 123) (i := 35) (v := .ref 85) rfl rfl (by decide) rfl rfl ?_
              refine jx_ld (pc' := 124) (l' := L) (st' := [.int (i32 (n)), .ref 85]) rfl (jl_iloadn gL_1) ?_
              refine jx_ld (pc' := 126) (l' := L) (st' := [.int (i32 (many)), .int (i32 (n)), .ref 85]) rfl (jl_iload gL_6) ?_
              refine jr_st (pc' := 127) (i := 18) (m := 7000) (z := n) (y := many) rfl (by decide) rfl (by decide) (by omega) (by omega) rfl ?_
              have hW175 : Wk G2 (uA A3 18 (n).toNat (many)) := Wk_a hW6 (show (-2147483648 : Int) ≤ many by omega) (show many ≤ (2147483647 : Int) by omega)
              have hF176 := Fr_a (z := many) (k := 18) (n := (n).toNat) hF11 (by decide)
              obtain ⟨A174, eA174⟩ : ∃ q, q = uA A3 18 (n).toNat (many) := ⟨_, rfl⟩
              rw [← eA174]
              rw [← eA174] at hW175 hF176
              have q177 : A174 18 (n).toNat = many := by rw [eA174]; exact uA_eq
              have hP178 : Pf zz A A174 := eA174 ▸ Pf_a hP12 (z := n) (by omega) (by omega)
              have hX179 : Px (n) (nd) A A174 := eA174 ▸ Px_a hX13 (z := n) (by omega) (by omega)
              have hS180 : Fx sr (sy) A A174 := eA174 ▸ Fx_n hS14 rfl
              have hV181 : Fx [14] (vi) A A174 := eA174 ▸ Fx_n hV15 rfl
              have sf182 : ND A174 (n) (kk) (aa) (many) (cc) (de) (Ax 21 (n).toNat) (xx) := ND_b eA174 sf16
              have sf183 : CL 0 A174 (sy1) pb (k) (Vs) (n) (last) (many) (n + 1) (nd1) (sy) (sy1) := CL_ag (by omega) (by omega) (Sg_ne eA174 rfl) (Qg_ne eA174 rfl) (Ag_st eA174 (by omega) (by omega)) ((congrFun ((congrFun eA174 21).trans (uA_ne (by decide))) _)) sf17
              have ec184 : ecn A174 (G2 31) = ec1 := (ecn_e ((congrFun eA174 15).trans (uA_ne (by decide)))).trans ec18
              refine jx_rt (v := none) rfl rfl rfl rfl rfl rfl ?_
              exact ⟨_, _, ln1, at1, fk2_5, nd1, sy1, na1, vi1, lf1, many, Ax 21 (n).toNat, ec1, rfl, rfl, hW175, hF176, hP178, hX179, hS180, hV181, ((hF7.1 9 rfl).trans (ex_ln1)), ((hF7.1 10 rfl).trans (ex_at1)), (e9), ((hF7.1 31 rfl).trans (ex_nd1)), ((hF7.1 19 rfl).trans (ex_sy1)), ((hF7.1 28 rfl).trans (ex_na1)), ((hF7.1 29 rfl).trans (ex_vi1)), (congrFun (((congrFun eA174 3).trans (uA_ne (by decide))).trans (hF7.2 3 rfl)) _).trans (ex_lf1), (q177), (congrFun (((congrFun eA174 21).trans (uA_ne (by decide))).trans (hF7.2 21 rfl)) _), ec184, by omega, by omega, by omega, by omega, by omega, by omega, by omega, by first | exact Or.inr ((⟨by omega, by omega, by omega, by omega, by omega, sf182, (RL_eq (RL_cl sf183) (by omega) (by omega) (by omega) (by omega) (by omega)), by omega⟩))⟩
            · have _q := h173
              refine jx_ld (pc' := 112) (l' := L) (st' := [.ref 66]) rfl (jl_aloadn gL_0) ?_
              refine jx_ld (pc' := 113) (l' := L) (st' := [.int (i32 (lv)), .ref 66]) rfl (jl_iloadn gL_2) ?_
              refine jx_ar (pc' := 114) (st' := [.int (i32 (1)), .int (i32 (lv)), .ref 66]) rfl rfl rfl rfl ?_
              refine jx_add (pc' := 115) rfl rfl ?_
              refine jx_vr (pc' := 118) (as := [.int (i32 ((lv + 1)))]) (st := []) rfl rfl rfl rfl ⟨rfl, rfl, Nat.le_of_ble_eq_true rfl⟩ rfl rfl (c_needLevel (dd := d) (hd := by omega) (hW := hW6) (lv := (lv + 1)) (ln := ln1) (e_ln := show G2 9 = ln1 from ((hF7.1 9 rfl).trans (ex_ln1))) (li := li) (e_li := show G2 3 = li from ((hF7.1 3 rfl).trans ((hFx.1 3 rfl).trans (e_li)))) (fk := fk2_5) (e_fk := show G2 16 = fk2_5 from (e9)) (ll := A 5 (ln1).toNat) (e_ll := show A3 5 (ln1).toNat = A 5 (ln1).toNat from (congrFun ((hF7.2 5 rfl).trans (hFx.2 5 rfl)) _))  (h_lv := ⟨(by omega), (by omega)⟩)  ) (fun o V' hq => ?_)
              obtain ⟨G185, A186, r187, fk2_188, rfl, rfl, hW189, hF190, b191, e192, q193⟩ := hq
              have hF194 := Fr_tr hF11 hF190 (Fr_sub (by decide)) (Fr_sub (by decide))
              have hP195 := Pf_f hP12 hF190 (by decide)
              have hX196 := Px_f hX13 hF190 (by decide)
              have hS197 := Fx_f hS14 hF190 (by decide)
              have hV198 := Fx_f hV15 hF190 (by decide)
              have sf199 : ND A186 (n) (kk) (aa) (bb) (cc) (de) (Ax 21 (n).toNat) (xx) := ND_ag (by omega) (Ag_fr hF190 (by decide)) sf16
              have sf200 : CL 0 A186 (sy1) pb (k) (Vs) (n) (last) (many) (n + 1) (nd1) (sy) (sy1) := CL_ag (by omega) (by omega) (Sg_fr hF190 (by decide)) (Qg_fr hF190 (by decide)) (Ag_fr hF190 (by decide)) (congrFun (hF190.2 21 rfl) _) sf17
              have ec201 : ecn A186 (G185 31) = ec1 := (ecn_f (hF190.2 15 rfl) (hF190.1 31 rfl)).trans ec18
              have bfk2_188 : (0 : Int) ≤ fk2_188 ∧ fk2_188 ≤ 6 := e192 ▸ hW189.1 16
              refine .inr ⟨_, rfl, ?_⟩
              rcases q193 with ⟨rfl, a202, a203, a204, a205⟩ | ⟨rfl, a206⟩
              · have _q : True := trivial
                have b207 : (0 : Int) ≤ A 4 (ln1).toNat ∧ A 4 (ln1).toNat ≤ 3000 := hW.2 4 _
                have lt208 : lf1 < A 4 (ln1).toNat := LT_at (LT_ext (((hF190.1 3 rfl).trans ((hF7.1 3 rfl).trans (hFx.1 3 rfl)))) (((hF190.2 3 rfl).trans ((hF7.2 3 rfl).trans (hFx.2 3 rfl)))) (((hF190.2 4 rfl).trans ((hF7.2 4 rfl).trans (hFx.2 4 rfl)))) i_LT) (show G185 3 = li from ((hF190.1 3 rfl).trans ((hF7.1 3 rfl).trans ((hFx.1 3 rfl).trans (e_li))))) (show A186 3 (ln1).toNat = lf1 from (congrFun ((hF190.2 3 rfl).trans (hF7.2 3 rfl)) _).trans (ex_lf1)) (show A186 4 (ln1).toNat = A 4 (ln1).toNat from (congrFun ((hF190.2 4 rfl).trans ((hF7.2 4 rfl).trans (hFx.2 4 rfl))) _)) (by omega) (by omega)
                refine jx_ar (pc' := 119) (st' := []) rfl rfl rfl rfl ?_
                refine jx_ld (pc' := 120) (l' := L) (st' := [.ref 66]) rfl (jl_aloadn gL_0) ?_
                refine jr_get (pc' := 123) (i := 35) (v := .ref 85) rfl rfl (by decide) rfl rfl ?_
                refine jx_ld (pc' := 124) (l' := L) (st' := [.int (i32 (n)), .ref 85]) rfl (jl_iloadn gL_1) ?_
                refine jx_ld (pc' := 126) (l' := L) (st' := [.int (i32 (many)), .int (i32 (n)), .ref 85]) rfl (jl_iload gL_6) ?_
                refine jr_st (pc' := 127) (i := 18) (m := 7000) (z := n) (y := many) rfl (by decide) rfl (by decide) (by omega) (by omega) rfl ?_
                have hW210 : Wk G185 (uA A186 18 (n).toNat (many)) := Wk_a hW189 (show (-2147483648 : Int) ≤ many by omega) (show many ≤ (2147483647 : Int) by omega)
                have hF211 := Fr_a (z := many) (k := 18) (n := (n).toNat) hF194 (by decide)
                obtain ⟨A209, eA209⟩ : ∃ q, q = uA A186 18 (n).toNat (many) := ⟨_, rfl⟩
                rw [← eA209]
                rw [← eA209] at hW210 hF211
                have q212 : A209 18 (n).toNat = many := by rw [eA209]; exact uA_eq
                have hP213 : Pf zz A A209 := eA209 ▸ Pf_a hP195 (z := n) (by omega) (by omega)
                have hX214 : Px (n) (nd) A A209 := eA209 ▸ Px_a hX196 (z := n) (by omega) (by omega)
                have hS215 : Fx sr (sy) A A209 := eA209 ▸ Fx_n hS197 rfl
                have hV216 : Fx [14] (vi) A A209 := eA209 ▸ Fx_n hV198 rfl
                have sf217 : ND A209 (n) (kk) (aa) (many) (cc) (de) (Ax 21 (n).toNat) (xx) := ND_b eA209 sf199
                have sf218 : CL 0 A209 (sy1) pb (k) (Vs) (n) (last) (many) (n + 1) (nd1) (sy) (sy1) := CL_ag (by omega) (by omega) (Sg_ne eA209 rfl) (Qg_ne eA209 rfl) (Ag_st eA209 (by omega) (by omega)) ((congrFun ((congrFun eA209 21).trans (uA_ne (by decide))) _)) sf200
                have ec219 : ecn A209 (G185 31) = ec1 := (ecn_e ((congrFun eA209 15).trans (uA_ne (by decide)))).trans ec201
                refine jx_rt (v := none) rfl rfl rfl rfl rfl rfl ?_
                exact ⟨_, _, ln1, at1, fk2_188, nd1, sy1, na1, vi1, lf1, many, Ax 21 (n).toNat, ec1, rfl, rfl, hW210, hF211, hP213, hX214, hS215, hV216, ((hF190.1 9 rfl).trans ((hF7.1 9 rfl).trans (ex_ln1))), ((hF190.1 10 rfl).trans ((hF7.1 10 rfl).trans (ex_at1))), (e192), ((hF190.1 31 rfl).trans ((hF7.1 31 rfl).trans (ex_nd1))), ((hF190.1 19 rfl).trans ((hF7.1 19 rfl).trans (ex_sy1))), ((hF190.1 28 rfl).trans ((hF7.1 28 rfl).trans (ex_na1))), ((hF190.1 29 rfl).trans ((hF7.1 29 rfl).trans (ex_vi1))), (congrFun (((congrFun eA209 3).trans (uA_ne (by decide))).trans ((hF190.2 3 rfl).trans (hF7.2 3 rfl))) _).trans (ex_lf1), (q212), (congrFun (((congrFun eA209 21).trans (uA_ne (by decide))).trans ((hF190.2 21 rfl).trans (hF7.2 21 rfl))) _), ec219, by omega, by omega, by omega, by omega, by omega, by omega, by omega, by first | exact Or.inr ((⟨by omega, by omega, by omega, by omega, by omega, sf217, (RL_eq (RL_cl sf218) (by omega) (by omega) (by omega) (by omega) (by omega)), by omega⟩))⟩
              · have _q : True := trivial
                refine jx_ar (pc' := 119) (st' := []) rfl rfl rfl rfl ?_
                refine jx_ld (pc' := 120) (l' := L) (st' := [.ref 66]) rfl (jl_aloadn gL_0) ?_
                refine jr_get (pc' := 123) (i := 35) (v := .ref 85) rfl rfl (by decide) rfl rfl ?_
                refine jx_ld (pc' := 124) (l' := L) (st' := [.int (i32 (n)), .ref 85]) rfl (jl_iloadn gL_1) ?_
                refine jx_ld (pc' := 126) (l' := L) (st' := [.int (i32 (many)), .int (i32 (n)), .ref 85]) rfl (jl_iload gL_6) ?_
                refine jr_st (pc' := 127) (i := 18) (m := 7000) (z := n) (y := many) rfl (by decide) rfl (by decide) (by omega) (by omega) rfl ?_
                have hW221 : Wk G185 (uA A186 18 (n).toNat (many)) := Wk_a hW189 (show (-2147483648 : Int) ≤ many by omega) (show many ≤ (2147483647 : Int) by omega)
                have hF222 := Fr_a (z := many) (k := 18) (n := (n).toNat) hF194 (by decide)
                obtain ⟨A220, eA220⟩ : ∃ q, q = uA A186 18 (n).toNat (many) := ⟨_, rfl⟩
                rw [← eA220]
                rw [← eA220] at hW221 hF222
                have q223 : A220 18 (n).toNat = many := by rw [eA220]; exact uA_eq
                have hP224 : Pf zz A A220 := eA220 ▸ Pf_a hP195 (z := n) (by omega) (by omega)
                have hX225 : Px (n) (nd) A A220 := eA220 ▸ Px_a hX196 (z := n) (by omega) (by omega)
                have hS226 : Fx sr (sy) A A220 := eA220 ▸ Fx_n hS197 rfl
                have hV227 : Fx [14] (vi) A A220 := eA220 ▸ Fx_n hV198 rfl
                have sf228 : ND A220 (n) (kk) (aa) (many) (cc) (de) (Ax 21 (n).toNat) (xx) := ND_b eA220 sf199
                have sf229 : CL 0 A220 (sy1) pb (k) (Vs) (n) (last) (many) (n + 1) (nd1) (sy) (sy1) := CL_ag (by omega) (by omega) (Sg_ne eA220 rfl) (Qg_ne eA220 rfl) (Ag_st eA220 (by omega) (by omega)) ((congrFun ((congrFun eA220 21).trans (uA_ne (by decide))) _)) sf200
                have ec230 : ecn A220 (G185 31) = ec1 := (ecn_e ((congrFun eA220 15).trans (uA_ne (by decide)))).trans ec201
                refine jx_rt (v := none) rfl rfl rfl rfl rfl rfl ?_
                exact ⟨_, _, ln1, at1, fk2_188, nd1, sy1, na1, vi1, lf1, many, Ax 21 (n).toNat, ec1, rfl, rfl, hW221, hF222, hP224, hX225, hS226, hV227, ((hF190.1 9 rfl).trans ((hF7.1 9 rfl).trans (ex_ln1))), ((hF190.1 10 rfl).trans ((hF7.1 10 rfl).trans (ex_at1))), (e192), ((hF190.1 31 rfl).trans ((hF7.1 31 rfl).trans (ex_nd1))), ((hF190.1 19 rfl).trans ((hF7.1 19 rfl).trans (ex_sy1))), ((hF190.1 28 rfl).trans ((hF7.1 28 rfl).trans (ex_na1))), ((hF190.1 29 rfl).trans ((hF7.1 29 rfl).trans (ex_vi1))), (congrFun (((congrFun eA220 3).trans (uA_ne (by decide))).trans ((hF190.2 3 rfl).trans (hF7.2 3 rfl))) _).trans (ex_lf1), (q223), (congrFun (((congrFun eA220 21).trans (uA_ne (by decide))).trans ((hF190.2 21 rfl).trans (hF7.2 21 rfl))) _), ec230, by omega, by omega, by omega, by omega, by omega, by omega, by omega, by first | exact Or.inl (⟨by omega, by omega⟩)⟩
      · have _q := h166
        exact absurd h166 (by omega)
set_option maxRecDepth 20000 in
set_option maxHeartbeats 4000000 in
theorem c_readChildren_w {X : jX} {k : Nat} (hP : RPw X k) {zz : Int} {dd : Nat} {Vs : Nat → Prop} {sb pb : Int} (hvb : VB Vs sb) {c0 c1 : jC} {G : Nat → Int} {A : Nat → Nat → Int} {T : jH} {n lv least mo : Int} {kk aa bb cc de xx : Int} {ln li at0 fk nd sy na vi lf ec : Int} (hd : 8 * k + 81 ≤ dd) (hW : Wk G A) (e_ln : G 9 = ln) (e_li : G 3 = li) (e_at0 : G 10 = at0) (e_fk : G 16 = fk) (e_nd : G 31 = nd) (e_sy : G 19 = sy) (e_na : G 28 = na) (e_vi : G 29 = vi) (e_lf : A 3 (ln).toNat = lf) (e_ec : ecn A (G 31) = ec) (i_LT : LT G A) (i_SV : SV Vs sb G A) (i_PQ : PQ Vs sb pb G A) (h_n : (-2147483648 : Int) ≤ n ∧ n ≤ 2147483647) (h_lv : (-2147483648 : Int) ≤ lv ∧ lv ≤ 2147483647) (h_least : (-2147483648 : Int) ≤ least ∧ least ≤ 2147483647) (h_mo : (-2147483648 : Int) ≤ mo ∧ mo ≤ 2147483647) (p_0 : 0 ≤ n ∧ n ≤ 6998) (p_1 : n < nd) (p_2 : 0 ≤ lv ∧ lv ≤ 15) (p_3 : 17 - lv ≤ (k : Int)) (p_4 : fk = 0) (p_5 : ln ≤ li) (p_6 : at0 < lf ∨ li ≤ ln) (p_7 : nd ≤ 2 * at0 + 32) (p_8 : sy ≤ na + 2) (p_9 : vi ≤ sy) (p_10 : 0 ≤ least ∧ least ≤ 2) (p_11 : 0 ≤ mo) (p_12 : zz ≤ n) (p_13 : nd = n + 1) (p_14 : sb ≤ sy) (p_15 : ND A (n) (kk) (aa) (bb) (cc) (de) (0) (xx)) : wk X dd 296 [.ref 66, .int (i32 n), .int (i32 lv), .int (i32 least), .int (i32 mo)] (rV c0 c1 G A T) (fun o V' => ∃ (G' : Nat → Int) (A' : Nat → Nat → Int) (ln2 : Int) (at2 : Int) (fk2 : Int) (nd2 : Int) (sy2 : Int) (na2 : Int) (vi2 : Int) (lf2 : Int) (mm : Int) (f2 : Int) (ec2 : Int), V' = rV c0 c1 G' A' T ∧ o = .inl none ∧ Wk G' A' ∧ Fr [9, 10, 11, 12, 13, 14, 15, 16, 17, 18, 19, 28, 29, 31] [6, 7, 8, 9, 10, 11, 12, 14, 15, 16, 17, 18, 19, 20, 21, 22, 23, 24, 28] G A G' A' ∧ Pf zz A A' ∧ Px (n) (nd) A A' ∧ Fx sr (sy) A A' ∧ Fx [14] (vi) A A' ∧ G' 9 = ln2 ∧ G' 10 = at2 ∧ G' 16 = fk2 ∧ G' 31 = nd2 ∧ G' 19 = sy2 ∧ G' 28 = na2 ∧ G' 29 = vi2 ∧ A' 3 (ln2).toNat = lf2 ∧ A' 18 (n).toNat = mm ∧ A' 21 (n).toNat = f2 ∧ ecn A' (G' 31) = ec2 ∧ (at0 ≤ at2) ∧ (nd ≤ nd2) ∧ (sy ≤ sy2) ∧ (sy2 ≤ na2 + 2) ∧ (ln ≤ ln2) ∧ (ln2 ≤ li) ∧ (vi2 = vi) ∧ (((1 ≤ fk2) ∧ (nd2 - nd ≤ 2 * at2 - 2 * at0 + 12)) ∨ ((fk2 = 0) ∧ (nd2 - nd ≤ 2 * at2 - 2 * at0) ∧ (at2 < lf2 ∨ li ≤ ln2) ∧ (least ≤ mm) ∧ (mm ≤ mo) ∧ (ND A' (n) (kk) (aa) (mm) (cc) (de) (f2) (xx)) ∧ (RL 0 A' (sy2) pb (k) (Vs) (n) (mm) (n + 1) (nd2) (sy) (sy2)) ∧ (nd2 - nd + 5 * (ec2 - ec) ≤ 2 * at2 - 2 * at0)))) := by
  obtain ⟨d, rfl⟩ : ∃ d, dd = d + 1 := ⟨dd - 1, by omega⟩
  refine wk_of (e := jm296) rfl (Nat.le_of_ble_eq_true rfl) ?_
  show wj X d jm296 (0, [(0, .ref 66), (1, .int (i32 (n))), (2, .int (i32 (lv))), (3, .int (i32 (least))), (4, .int (i32 (mo)))], [], rV c0 c1 G A T) _
  have hF0 : Fr [9, 10, 11, 12, 13, 14, 15, 16, 17, 18, 19, 28, 29, 31] [6, 7, 8, 9, 10, 11, 12, 14, 15, 16, 17, 18, 19, 20, 21, 22, 23, 24, 28] G A G A := Fr_rf
  have hP0 : Pf zz A A := Pf_rf
  have hX0 : Px (n) (nd) A A := Px_rf
  have hS0 : Fx sr (sy) A A := Fx_rf
  have hV0 : Fx [14] (vi) A A := Fx_rf
  have b_ln : (0 : Int) ≤ ln ∧ ln ≤ 3000 := e_ln ▸ hW.1 9
  have b_li : (0 : Int) ≤ li ∧ li ≤ 3000 := e_li ▸ hW.1 3
  have b_at0 : (0 : Int) ≤ at0 ∧ at0 ≤ 3002 := e_at0 ▸ hW.1 10
  have b_fk : (0 : Int) ≤ fk ∧ fk ≤ 6 := e_fk ▸ hW.1 16
  have b_nd : (0 : Int) ≤ nd ∧ nd ≤ 6999 := e_nd ▸ hW.1 31
  have b_sy : (0 : Int) ≤ sy ∧ sy ≤ 202 := e_sy ▸ hW.1 19
  have b_na : (0 : Int) ≤ na ∧ na ≤ 200 := e_na ▸ hW.1 28
  have b_vi : (0 : Int) ≤ vi ∧ vi ≤ 202 := e_vi ▸ hW.1 29
  have b_lf : (0 : Int) ≤ lf ∧ lf ≤ 3000 := e_lf ▸ hW.2 3 _
  refine jx_ar (pc' := 1) (st' := [.int (i32 (0))]) rfl rfl rfl rfl ?_
  refine jx_ld (pc' := 3) (l' := jSto1 [(0, .ref 66), (1, .int (i32 (n))), (2, .int (i32 (lv))), (3, .int (i32 (least))), (4, .int (i32 (mo)))] 5 (.int (i32 (0)))) (st' := []) rfl rfl ?_
  obtain ⟨L231, eL231⟩ : ∃ q, q = jSto1 [(0, .ref 66), (1, .int (i32 (n))), (2, .int (i32 (lv))), (3, .int (i32 (least))), (4, .int (i32 (mo)))] 5 (.int (i32 (0))) := ⟨_, rfl⟩
  rw [← eL231]
  have gL231_0 : jGet L231 0 = some (.ref 66) := eL231 ▸ jg_ne (by decide) (rfl : jGet [(0, .ref 66), (1, .int (i32 (n))), (2, .int (i32 (lv))), (3, .int (i32 (least))), (4, .int (i32 (mo)))] 0 = some (.ref 66)) rfl
  have gL231_1 : jGet L231 1 = some (.int (i32 (n))) := eL231 ▸ jg_ne (by decide) (rfl : jGet [(0, .ref 66), (1, .int (i32 (n))), (2, .int (i32 (lv))), (3, .int (i32 (least))), (4, .int (i32 (mo)))] 1 = some (.int (i32 (n)))) rfl
  have gL231_2 : jGet L231 2 = some (.int (i32 (lv))) := eL231 ▸ jg_ne (by decide) (rfl : jGet [(0, .ref 66), (1, .int (i32 (n))), (2, .int (i32 (lv))), (3, .int (i32 (least))), (4, .int (i32 (mo)))] 2 = some (.int (i32 (lv)))) rfl
  have gL231_3 : jGet L231 3 = some (.int (i32 (least))) := eL231 ▸ jg_ne (by decide) (rfl : jGet [(0, .ref 66), (1, .int (i32 (n))), (2, .int (i32 (lv))), (3, .int (i32 (least))), (4, .int (i32 (mo)))] 3 = some (.int (i32 (least)))) rfl
  have gL231_4 : jGet L231 4 = some (.int (i32 (mo))) := eL231 ▸ jg_ne (by decide) (rfl : jGet [(0, .ref 66), (1, .int (i32 (n))), (2, .int (i32 (lv))), (3, .int (i32 (least))), (4, .int (i32 (mo)))] 4 = some (.int (i32 (mo)))) rfl
  have gL231_5 : jGet L231 5 = some (.int (i32 (0))) := eL231 ▸ jg_eq
  refine jx_ar (pc' := 4) (st' := [.int (i32 (0))]) rfl rfl rfl rfl ?_
  refine jx_ld (pc' := 6) (l' := jSto1 L231 6 (.int (i32 (0)))) (st' := []) rfl rfl ?_
  obtain ⟨L232, eL232⟩ : ∃ q, q = jSto1 L231 6 (.int (i32 (0))) := ⟨_, rfl⟩
  rw [← eL232]
  have gL232_0 : jGet L232 0 = some (.ref 66) := eL232 ▸ jg_ne (by decide) gL231_0 rfl
  have gL232_1 : jGet L232 1 = some (.int (i32 (n))) := eL232 ▸ jg_ne (by decide) gL231_1 rfl
  have gL232_2 : jGet L232 2 = some (.int (i32 (lv))) := eL232 ▸ jg_ne (by decide) gL231_2 rfl
  have gL232_3 : jGet L232 3 = some (.int (i32 (least))) := eL232 ▸ jg_ne (by decide) gL231_3 rfl
  have gL232_4 : jGet L232 4 = some (.int (i32 (mo))) := eL232 ▸ jg_ne (by decide) gL231_4 rfl
  have gL232_5 : jGet L232 5 = some (.int (i32 (0))) := eL232 ▸ jg_ne (by decide) gL231_5 rfl
  have gL232_6 : jGet L232 6 = some (.int (i32 (0))) := eL232 ▸ jg_eq
  exact c_readChildren_w_at_6 (X := X) (k := k) (hP := hP) (zz := zz) (d := d) (Vs := Vs) (sb := sb) (pb := pb) (hvb := hvb) (c0 := c0) (c1 := c1) (G := G) (A := A) (T := T) (n := n) (lv := lv) (least := least) (mo := mo) (kk := kk) (aa := aa) (bb := bb) (cc := cc) (de := de) (xx := xx) (ln := ln) (li := li) (at0 := at0) (fk := fk) (nd := nd) (sy := sy) (na := na) (vi := vi) (lf := lf) (ec := ec) (hd := hd) (hW := hW) (e_ln := e_ln) (e_li := e_li) (e_at0 := e_at0) (e_fk := e_fk) (e_nd := e_nd) (e_sy := e_sy) (e_na := e_na) (e_vi := e_vi) (e_lf := e_lf) (e_ec := e_ec) (i_LT := i_LT) (i_SV := i_SV) (i_PQ := i_PQ) (h_n := h_n) (h_lv := h_lv) (h_least := h_least) (h_mo := h_mo) (p_0 := p_0) (p_1 := p_1) (p_2 := p_2) (p_3 := p_3) (p_4 := p_4) (p_5 := p_5) (p_6 := p_6) (p_7 := p_7) (p_8 := p_8) (p_9 := p_9) (p_10 := p_10) (p_11 := p_11) (p_12 := p_12) (p_13 := p_13) (p_14 := p_14) (p_15 := p_15) _ L232 G A (0) (0) (ln) (at0) (fk) (nd) (sy) (na) (vi) (lf) (ec) rfl gL232_0 gL232_1 gL232_2 gL232_3 gL232_4 gL232_5 gL232_6 hW hF0 hP0 hX0 hS0 hV0 ((e_ln)) ((e_at0)) ((e_fk)) ((e_nd)) ((e_sy)) ((e_na)) ((e_vi)) ((e_lf)) (e_ec) (by omega) (by omega) (by omega) (by omega) (by omega) (by omega) (by omega) (by omega) (by omega) (by omega) (by omega) (by omega) (by omega) (by omega) (by omega) (by omega) (by omega) ((ND_sf p_15)) ((CL_eq (CL_nil (lo := n + 1) (s0 := sy) (ND_f0 p_15)) (by omega) (by omega) (by omega) (by omega) (by omega) (by omega))) (by omega)
set_option maxRecDepth 20000 in
set_option maxHeartbeats 4000000 in
theorem c_readIndexed_w {X : jX} {k : Nat} (hP : RPw X k) {zz : Int} {dd : Nat} {Vs : Nat → Prop} {sb pb : Int} (hvb : VB Vs sb) {c0 c1 : jC} {G : Nat → Int} {A : Nat → Nat → Int} {T : jH} {n lv : Int} {kk bb cc de xx : Int} {ln li at0 fk nd sy na vi lf sa ksa ec : Int} (hd : 8 * k + 81 ≤ dd) (hW : Wk G A) (e_ln : G 9 = ln) (e_li : G 3 = li) (e_at0 : G 10 = at0) (e_fk : G 16 = fk) (e_nd : G 31 = nd) (e_sy : G 19 = sy) (e_na : G 28 = na) (e_vi : G 29 = vi) (e_lf : A 3 (ln).toNat = lf) (e_sa : A 17 (n).toNat = sa) (e_ksa : A 7 (sa).toNat = ksa) (e_ec : ecn A (G 31) = ec) (i_LT : LT G A) (i_SV : SV Vs sb G A) (i_PQ : PQ Vs sb pb G A) (h_n : (-2147483648 : Int) ≤ n ∧ n ≤ 2147483647) (h_lv : (-2147483648 : Int) ≤ lv ∧ lv ≤ 2147483647) (p_0 : 0 ≤ n ∧ n ≤ 6998) (p_1 : n < nd) (p_2 : 0 ≤ lv ∧ lv ≤ 15) (p_3 : 17 - lv ≤ (k : Int)) (p_4 : fk = 0) (p_5 : ln ≤ li) (p_6 : at0 < lf ∨ li ≤ ln) (p_7 : nd ≤ 2 * at0 + 32) (p_8 : sy ≤ na + 2) (p_9 : vi ≤ sy) (p_10 : 0 ≤ sa ∧ sa ≤ 201) (p_11 : vi < sy) (p_12 : zz ≤ n) (p_13 : sa = sy - 1) (p_14 : sb ≤ sa) (p_15 : ksa ≤ 13) (p_16 : ND A (n) (kk) (sa) (bb) (cc) (de) (0) (xx)) : wk X dd 298 [.ref 66, .int (i32 n), .int (i32 lv)] (rV c0 c1 G A T) (fun o V' => ∃ (G' : Nat → Int) (A' : Nat → Nat → Int) (ln2 : Int) (at2 : Int) (fk2 : Int) (nd2 : Int) (sy2 : Int) (na2 : Int) (vi2 : Int) (lf2 : Int) (f2 : Int) (ec2 : Int), V' = rV c0 c1 G' A' T ∧ o = .inl (some (.int (i32 (n)))) ∧ Wk G' A' ∧ Fr [9, 10, 11, 12, 13, 14, 15, 16, 17, 18, 19, 28, 29, 31] [6, 7, 8, 9, 10, 11, 12, 14, 15, 16, 17, 18, 19, 20, 21, 22, 23, 24, 28] G A G' A' ∧ Pf zz A A' ∧ Px (n) (nd) A A' ∧ Fx sr (sy) A A' ∧ Fx [14] (vi) A A' ∧ G' 9 = ln2 ∧ G' 10 = at2 ∧ G' 16 = fk2 ∧ G' 31 = nd2 ∧ G' 19 = sy2 ∧ G' 28 = na2 ∧ G' 29 = vi2 ∧ A' 3 (ln2).toNat = lf2 ∧ A' 21 (n).toNat = f2 ∧ ecn A' (G' 31) = ec2 ∧ (at0 ≤ at2) ∧ (nd ≤ nd2) ∧ (sy ≤ sy2) ∧ (sy2 ≤ na2 + 2) ∧ (ln ≤ ln2) ∧ (ln2 ≤ li) ∧ (vi2 = vi) ∧ (((1 ≤ fk2) ∧ (nd2 - nd ≤ 2 * at2 - 2 * at0 + 12)) ∨ ((fk2 = 0) ∧ (nd2 - nd ≤ 2 * at2 - 2 * at0) ∧ (at2 < lf2 ∨ li ≤ ln2) ∧ (ln < ln2) ∧ (ND A' (n) (kk) (sa) (bb) (cc) (de) (f2) (xx)) ∧ (wP A' (sy2) pb (k) (Vu Vs sa) (f2) (nd) (nd2) (sy) (sy2)) ∧ (nd2 - nd + 5 * (ec2 - ec) ≤ 2 * at2 - 2 * at0)))) := by
  obtain ⟨d, rfl⟩ : ∃ d, dd = d + 1 := ⟨dd - 1, by omega⟩
  refine wk_of (e := jm298) rfl (Nat.le_of_ble_eq_true rfl) ?_
  show wj X d jm298 (0, [(0, .ref 66), (1, .int (i32 (n))), (2, .int (i32 (lv)))], [], rV c0 c1 G A T) _
  have hF0 : Fr [9, 10, 11, 12, 13, 14, 15, 16, 17, 18, 19, 28, 29, 31] [6, 7, 8, 9, 10, 11, 12, 14, 15, 16, 17, 18, 19, 20, 21, 22, 23, 24, 28] G A G A := Fr_rf
  have hP0 : Pf zz A A := Pf_rf
  have hX0 : Px (n) (nd) A A := Px_rf
  have hS0 : Fx sr (sy) A A := Fx_rf
  have hV0 : Fx [14] (vi) A A := Fx_rf
  have b_ln : (0 : Int) ≤ ln ∧ ln ≤ 3000 := e_ln ▸ hW.1 9
  have b_li : (0 : Int) ≤ li ∧ li ≤ 3000 := e_li ▸ hW.1 3
  have b_at0 : (0 : Int) ≤ at0 ∧ at0 ≤ 3002 := e_at0 ▸ hW.1 10
  have b_fk : (0 : Int) ≤ fk ∧ fk ≤ 6 := e_fk ▸ hW.1 16
  have b_nd : (0 : Int) ≤ nd ∧ nd ≤ 6999 := e_nd ▸ hW.1 31
  have b_sy : (0 : Int) ≤ sy ∧ sy ≤ 202 := e_sy ▸ hW.1 19
  have b_na : (0 : Int) ≤ na ∧ na ≤ 200 := e_na ▸ hW.1 28
  have b_vi : (0 : Int) ≤ vi ∧ vi ≤ 202 := e_vi ▸ hW.1 29
  have b_lf : (0 : Int) ≤ lf ∧ lf ≤ 3000 := e_lf ▸ hW.2 3 _
  have b_sa : (-2147483648 : Int) ≤ sa ∧ sa ≤ 2147483647 := e_sa ▸ hW.2 17 _
  have b_ksa : (0 : Int) ≤ ksa ∧ ksa ≤ 14 := e_ksa ▸ hW.2 7 _
  refine jx_ld (pc' := 1) (l' := [(0, .ref 66), (1, .int (i32 (n))), (2, .int (i32 (lv)))]) (st' := [.ref 66]) rfl (jl_aloadn rfl) ?_
  refine jx_vr (pc' := 4) (as := []) (st := []) rfl rfl rfl rfl ⟨rfl, rfl, Nat.le_of_ble_eq_true rfl⟩ rfl rfl (c_bad (dd := d) (hd := by omega) (hW := hW)  (fk := fk) (e_fk := show G 16 = fk from (e_fk))    ) (fun o V' hq => ?_)
  obtain ⟨r1, rfl, rfl, b2, q3⟩ := hq
  refine .inr ⟨_, rfl, ?_⟩
  rcases q3 with ⟨rfl, a4⟩ | ⟨rfl, a5⟩
  · have _q : True := trivial
    exfalso
    omega
  · have _q : True := trivial
    refine jx_if_eq (pc' := 7) (tg := 9) rfl rfl rfl (by decide) (by decide) (fun h6 => ?_) (fun h6 => ?_)
    · have _q := h6
      refine jx_ld (pc' := 10) (l' := [(0, .ref 66), (1, .int (i32 (n))), (2, .int (i32 (lv)))]) (st' := [.ref 66]) rfl (jl_aloadn rfl) ?_
      refine jr_get (pc' := 13) (i := 29) (v := .int (i32 (vi))) rfl rfl (by decide) (rFv_eq (by decide) (show G 29 = vi from (e_vi))) rfl ?_
      refine jx_ld (pc' := 14) (l' := jSto1 [(0, .ref 66), (1, .int (i32 (n))), (2, .int (i32 (lv)))] 3 (.int (i32 (vi)))) (st' := []) rfl rfl ?_
      obtain ⟨L7, eL7⟩ : ∃ q, q = jSto1 [(0, .ref 66), (1, .int (i32 (n))), (2, .int (i32 (lv)))] 3 (.int (i32 (vi))) := ⟨_, rfl⟩
      rw [← eL7]
      have gL7_0 : jGet L7 0 = some (.ref 66) := eL7 ▸ jg_ne (by decide) (rfl : jGet [(0, .ref 66), (1, .int (i32 (n))), (2, .int (i32 (lv)))] 0 = some (.ref 66)) rfl
      have gL7_1 : jGet L7 1 = some (.int (i32 (n))) := eL7 ▸ jg_ne (by decide) (rfl : jGet [(0, .ref 66), (1, .int (i32 (n))), (2, .int (i32 (lv)))] 1 = some (.int (i32 (n)))) rfl
      have gL7_2 : jGet L7 2 = some (.int (i32 (lv))) := eL7 ▸ jg_ne (by decide) (rfl : jGet [(0, .ref 66), (1, .int (i32 (n))), (2, .int (i32 (lv)))] 2 = some (.int (i32 (lv)))) rfl
      have gL7_3 : jGet L7 3 = some (.int (i32 (vi))) := eL7 ▸ jg_eq
      refine jx_ld (pc' := 15) (l' := L7) (st' := [.ref 66]) rfl (jl_aloadn gL7_0) ?_
      refine jx_ld (pc' := 16) (l' := L7) (st' := [.ref 66, .ref 66]) rfl (jl_aloadn gL7_0) ?_
      refine jr_get (pc' := 19) (i := 34) (v := .ref 84) rfl rfl (by decide) rfl rfl ?_
      refine jx_ld (pc' := 20) (l' := L7) (st' := [.int (i32 (n)), .ref 84, .ref 66]) rfl (jl_iloadn gL7_1) ?_
      refine jr_ldv (pc' := 21) (i := 17) (m := 7000) (z := n) (y := sa) rfl (by decide) rfl (by decide) (by omega) (by omega) rfl (show A 17 (n).toNat = sa from (e_sa)) ?_
      refine jx_vr (pc' := 24) (as := [.int (i32 (sa))]) (st := []) rfl rfl rfl rfl ⟨rfl, rfl, Nat.le_of_ble_eq_true rfl⟩ rfl rfl (c_show (dd := d) (hd := by omega) (hW := hW) (s := sa) (vi := vi) (e_vi := show G 29 = vi from (e_vi))  (h_s := ⟨(Int.le_trans (by decide : (-2147483648 : Int) ≤ -2147483648) b_sa.1), (Int.le_trans b_sa.2 (by decide : (2147483647 : Int) ≤ 2147483647))⟩)  (p_0 := by omega) (p_1 := by omega)) (fun o V' hq => ?_)
      obtain ⟨G8, A9, vi2_10, sv2_11, rfl, rfl, hW12, hF13, hQ14, e15, e16, p17, p18, -⟩ := hq
      have hF20 := Fr_tr hF0 hF13 (Fr_sub (by decide)) (Fr_sub (by decide))
      have hP21 := Pf_f hP0 hF13 (by decide)
      have hX22 := Px_f hX0 hF13 (by decide)
      have hS23 := Fx_f hS0 hF13 (by decide)
      have hV24 := Fx_tr hV0 hQ14 (by omega)
      have sf25 : ND A9 (n) (kk) (sa) (bb) (cc) (de) (0) (xx) := ND_ag (by omega) (Ag_fr hF13 (by decide)) p_16
      have ec26 : ecn A9 (G8 31) = ec := (ecn_f (hF13.2 15 rfl) (hF13.1 31 rfl)).trans e_ec
      have bvi2_10 : (0 : Int) ≤ vi2_10 ∧ vi2_10 ≤ 202 := e15 ▸ hW12.1 29
      have bsv2_11 : (0 : Int) ≤ sv2_11 ∧ sv2_11 ≤ 201 := e16 ▸ hW12.2 14 _
      refine .inl ⟨rfl, ?_⟩
      refine jx_ld (pc' := 25) (l' := L7) (st' := [.ref 66]) rfl (jl_aloadn gL7_0) ?_
      refine jr_get (pc' := 28) (i := 38) (v := .ref 88) rfl rfl (by decide) rfl rfl ?_
      refine jx_ld (pc' := 29) (l' := L7) (st' := [.int (i32 (n)), .ref 88]) rfl (jl_iloadn gL7_1) ?_
      refine jx_ld (pc' := 30) (l' := L7) (st' := [.ref 66, .int (i32 (n)), .ref 88]) rfl (jl_aloadn gL7_0) ?_
      refine jx_ld (pc' := 31) (l' := L7) (st' := [.int (i32 (lv)), .ref 66, .int (i32 (n)), .ref 88]) rfl (jl_iloadn gL7_2) ?_
      refine jx_ar (pc' := 32) (st' := [.int (i32 (1)), .int (i32 (lv)), .ref 66, .int (i32 (n)), .ref 88]) rfl rfl rfl rfl ?_
      refine jx_add (pc' := 33) rfl rfl ?_
      refine jx_vr (pc' := 36) (as := [.int (i32 ((lv + 1)))]) (st := [.int (i32 (n)), .ref 88]) rfl rfl rfl rfl ⟨rfl, rfl, Nat.le_of_ble_eq_true rfl⟩ rfl rfl (hP (dd := d) (hd := by omega) (hW := hW12) (lv := (lv + 1)) (at0 := at0) (ln := ln) (e_ln := show G8 9 = ln from ((hF13.1 9 rfl).trans (e_ln))) (li := li) (e_li := show G8 3 = li from ((hF13.1 3 rfl).trans (e_li))) (fk := fk) (e_fk := show G8 16 = fk from ((hF13.1 16 rfl).trans (e_fk))) (nd := nd) (e_nd := show G8 31 = nd from ((hF13.1 31 rfl).trans (e_nd))) (sy := sy) (e_sy := show G8 19 = sy from ((hF13.1 19 rfl).trans (e_sy))) (na := na) (e_na := show G8 28 = na from ((hF13.1 28 rfl).trans (e_na))) (vi := vi2_10) (e_vi := show G8 29 = vi2_10 from (e15)) (lf := lf) (e_lf := show A9 3 (ln).toNat = lf from (congrFun (hF13.2 3 rfl) _).trans (e_lf)) (ac := at0) (e_ac := show G8 10 = at0 from ((hF13.1 10 rfl).trans (e_at0))) (ec := ec) (e_ec := show ecn A9 (G8 31) = ec from ec26) (i_LT := (LT_ext ((hF13.1 3 rfl)) ((hF13.2 3 rfl)) ((hF13.2 4 rfl)) i_LT)) (i_SV := (SV_show (w := sy) i_SV e_vi (show G8 29 = vi2_10 from (e15)) (by omega) hV24 ((show A9 14 (vi).toNat = sv2_11 from (e16)).trans (by omega : sv2_11 = sa)) (by omega) (by omega) (by omega) (by omega))) (i_PQ := (PQ_show (w := sy) (kd := ksa) i_PQ (Fx_su hS23 (by omega)) (by omega) (hF20.2 29 rfl) (hF20.2 30 rfl) (by omega) (show A9 7 (sa).toNat = ksa from (congrFun (hF13.2 7 rfl) _).trans (e_ksa)) (by omega) hvb)) (hvb := (VB_u (s := sa) (w := sy) hvb (by omega) (by omega))) (h_lv := ⟨(by omega), (by omega)⟩)  (p_0 := by omega) (p_1 := by omega) (p_2 := by omega) (p_3 := by omega) (p_4 := by omega) (p_5 := by omega) (p_6 := by omega) (p_7 := by omega) (p_8 := by omega) (p_9 := by omega) (p_10 := by omega)) (fun o V' hq => ?_)
      obtain ⟨G27, A28, r29, ln2_30, at2_31, fk2_32, nd2_33, sy2_34, na2_35, vi2_36, lf2_37, ec2_38, rfl, rfl, hW39, hF40, hQ41, hQ42, hQ43, b44, e45, e46, e47, e48, e49, e50, e51, e52, e53, p54, p55, p56, p57, p58, p59, p60, p61, p62, q63⟩ := hq
      have hF64 := Fr_tr hF20 hF40 (Fr_sub (by decide)) (Fr_sub (by decide))
      have hP65 := Pf_tr hP21 hQ41 (by omega)
      have hX66 := Px_p hX22 hQ41 (by omega)
      have hS67 := Fx_tr hS23 hQ42 (by omega)
      have hV68 := Fx_tr hV24 hQ43 (by omega)
      have sf69 : ND A28 (n) (kk) (sa) (bb) (cc) (de) (0) (xx) := ND_ag (by omega) (Ag_pf hQ41 (by omega)) sf25
      have bln2_30 : (0 : Int) ≤ ln2_30 ∧ ln2_30 ≤ 3000 := e45 ▸ hW39.1 9
      have bat2_31 : (0 : Int) ≤ at2_31 ∧ at2_31 ≤ 3002 := e46 ▸ hW39.1 10
      have bfk2_32 : (0 : Int) ≤ fk2_32 ∧ fk2_32 ≤ 6 := e47 ▸ hW39.1 16
      have bnd2_33 : (0 : Int) ≤ nd2_33 ∧ nd2_33 ≤ 6999 := e48 ▸ hW39.1 31
      have bsy2_34 : (0 : Int) ≤ sy2_34 ∧ sy2_34 ≤ 202 := e49 ▸ hW39.1 19
      have bna2_35 : (0 : Int) ≤ na2_35 ∧ na2_35 ≤ 200 := e50 ▸ hW39.1 28
      have bvi2_36 : (0 : Int) ≤ vi2_36 ∧ vi2_36 ≤ 202 := e51 ▸ hW39.1 29
      have blf2_37 : (0 : Int) ≤ lf2_37 ∧ lf2_37 ≤ 3000 := e52 ▸ hW39.2 3 _
      refine .inr ⟨_, rfl, ?_⟩
      rcases q63 with ⟨a70, a71⟩ | ⟨a72, a73, a74, a75, a76, a77, a78, a79, a80⟩
      · have _q : True := trivial
        refine jr_st (pc' := 37) (i := 21) (m := 7000) (z := n) (y := r29) rfl (by decide) rfl (by decide) (by omega) (by omega) rfl ?_
        have hW82 : Wk G27 (uA A28 21 (n).toNat (r29)) := Wk_a hW39 (show (-2147483648 : Int) ≤ r29 by omega) (show r29 ≤ (2147483647 : Int) by omega)
        have hF83 := Fr_a (z := r29) (k := 21) (n := (n).toNat) hF64 (by decide)
        obtain ⟨A81, eA81⟩ : ∃ q, q = uA A28 21 (n).toNat (r29) := ⟨_, rfl⟩
        rw [← eA81]
        rw [← eA81] at hW82 hF83
        have q84 : A81 21 (n).toNat = r29 := by rw [eA81]; exact uA_eq
        have hP85 : Pf zz A A81 := eA81 ▸ Pf_a hP65 (z := n) (by omega) (by omega)
        have hX86 : Px (n) (nd) A A81 := eA81 ▸ Px_a hX66 (z := n) (by omega) (by omega)
        have hS87 : Fx sr (sy) A A81 := eA81 ▸ Fx_n hS67 rfl
        have hV88 : Fx [14] (vi) A A81 := eA81 ▸ Fx_n hV68 rfl
        have sf89 : ND A81 (n) (kk) (sa) (bb) (cc) (de) (r29) (xx) := ND_f eA81 sf69
        have ec90 : ecn A81 (G27 31) = ec2_38 := (ecn_e ((congrFun eA81 15).trans (uA_ne (by decide)))).trans e53
        refine jx_ld (pc' := 38) (l' := L7) (st' := [.ref 66]) rfl (jl_aloadn gL7_0) ?_
        refine jx_ld (pc' := 39) (l' := L7) (st' := [.int (i32 (vi)), .ref 66]) rfl (jl_iloadn gL7_3) ?_
        refine jr_put (pc' := 42) (i := 29) (z := vi) rfl rfl (by decide) rfl rfl rfl rfl rfl rfl ?_
        have hW91 : Wk (uG G27 29 (vi)) A81 := Wk_g hW82 (show (0 : Int) ≤ vi by omega) (show vi ≤ (202 : Int) by omega)
        have hF92 := Fr_g (z := vi) (i := 29) hF83 (by decide)
        have ec93 : ecn A81 ((uG G27 29 (vi)) 31) = ec2_38 := ec90
        refine jx_ld (pc' := 43) (l' := L7) (st' := [.int (i32 (n))]) rfl (jl_iloadn gL7_1) ?_
        refine jx_rt (v := some (.int (i32 (n)))) rfl rfl rfl rfl rfl rfl ?_
        exact ⟨_, _, ln2_30, at2_31, fk2_32, nd2_33, sy2_34, na2_35, vi, lf2_37, r29, ec2_38, rfl, rfl, hW91, hF92, hP85, hX86, hS87, hV88, (e45), (e46), (e47), (e48), (e49), (e50), rfl, (congrFun ((congrFun eA81 3).trans (uA_ne (by decide))) _).trans (e52), (q84), ec93, by omega, by omega, by omega, by omega, by omega, by omega, by omega, by first | exact Or.inl (⟨by omega, by omega⟩)⟩
      · have _q : True := trivial
        refine jr_st (pc' := 37) (i := 21) (m := 7000) (z := n) (y := r29) rfl (by decide) rfl (by decide) (by omega) (by omega) rfl ?_
        have hW95 : Wk G27 (uA A28 21 (n).toNat (r29)) := Wk_a hW39 (show (-2147483648 : Int) ≤ r29 by omega) (show r29 ≤ (2147483647 : Int) by omega)
        have hF96 := Fr_a (z := r29) (k := 21) (n := (n).toNat) hF64 (by decide)
        obtain ⟨A94, eA94⟩ : ∃ q, q = uA A28 21 (n).toNat (r29) := ⟨_, rfl⟩
        rw [← eA94]
        rw [← eA94] at hW95 hF96
        have q97 : A94 21 (n).toNat = r29 := by rw [eA94]; exact uA_eq
        have hP98 : Pf zz A A94 := eA94 ▸ Pf_a hP65 (z := n) (by omega) (by omega)
        have hX99 : Px (n) (nd) A A94 := eA94 ▸ Px_a hX66 (z := n) (by omega) (by omega)
        have hS100 : Fx sr (sy) A A94 := eA94 ▸ Fx_n hS67 rfl
        have hV101 : Fx [14] (vi) A A94 := eA94 ▸ Fx_n hV68 rfl
        have sf102 : ND A94 (n) (kk) (sa) (bb) (cc) (de) (r29) (xx) := ND_f eA94 sf69
        have sf103 : wP A94 (sy2_34) pb (k) (Vu Vs sa) (r29) (nd) (nd2_33) (sy) (sy2_34) := wP_ag (Sg_ne eA94 rfl) (Qg_ne eA94 rfl) (by omega) (by omega) (Ax_ag (Ag_st eA94 (by omega) (by omega))) a78
        have sf104 : NX A94 (r29) := NX_r eA94 (by decide) a79
        have ec105 : ecn A94 (G27 31) = ec2_38 := (ecn_e ((congrFun eA94 15).trans (uA_ne (by decide)))).trans e53
        refine jx_ld (pc' := 38) (l' := L7) (st' := [.ref 66]) rfl (jl_aloadn gL7_0) ?_
        refine jx_ld (pc' := 39) (l' := L7) (st' := [.int (i32 (vi)), .ref 66]) rfl (jl_iloadn gL7_3) ?_
        refine jr_put (pc' := 42) (i := 29) (z := vi) rfl rfl (by decide) rfl rfl rfl rfl rfl rfl ?_
        have hW106 : Wk (uG G27 29 (vi)) A94 := Wk_g hW95 (show (0 : Int) ≤ vi by omega) (show vi ≤ (202 : Int) by omega)
        have hF107 := Fr_g (z := vi) (i := 29) hF96 (by decide)
        have ec108 : ecn A94 ((uG G27 29 (vi)) 31) = ec2_38 := ec105
        refine jx_ld (pc' := 43) (l' := L7) (st' := [.int (i32 (n))]) rfl (jl_iloadn gL7_1) ?_
        refine jx_rt (v := some (.int (i32 (n)))) rfl rfl rfl rfl rfl rfl ?_
        exact ⟨_, _, ln2_30, at2_31, fk2_32, nd2_33, sy2_34, na2_35, vi, lf2_37, r29, ec2_38, rfl, rfl, hW106, hF107, hP98, hX99, hS100, hV101, (e45), (e46), (e47), (e48), (e49), (e50), rfl, (congrFun ((congrFun eA94 3).trans (uA_ne (by decide))) _).trans (e52), (q97), ec108, by omega, by omega, by omega, by omega, by omega, by omega, by omega, by first | exact Or.inr ((⟨by omega, by omega, by omega, by omega, sf102, sf103, by omega⟩))⟩
    · have _q := h6
      exact absurd h6 (by omega)
