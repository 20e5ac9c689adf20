def RPw (X : jX) (k : Nat) : Prop := ∀ ⦃dd : Nat⦄ ⦃Vs : Nat → Prop⦄ ⦃sb pb : Int⦄ (hvb : VB Vs sb) ⦃c0 c1 : jC⦄ ⦃G : Nat → Int⦄ ⦃A : Nat → Nat → Int⦄ ⦃T : jH⦄ ⦃lv : Int⦄ ⦃at0 : Int⦄ ⦃ln li fk nd sy na vi lf ac ec : Int⦄ (hd : 8 * k + 80 ≤ dd) (hW : Wk G A) (e_ln : G 9 = ln) (e_li : G 3 = li) (e_fk : G 16 = fk) (e_nd : G 31 = nd) (e_sy : G 19 = sy) (e_na : G 28 = na) (e_vi : G 29 = vi) (e_lf : A 3 (ln).toNat = lf) (e_ac : G 10 = ac) (e_ec : ecn A (G 31) = ec) (i_LT : LT G A) (i_SV : SV Vs sb G A) (i_PQ : PQ Vs sb pb G A) (h_lv : (-2147483648 : Int) ≤ lv ∧ lv ≤ 2147483647) (p_0 : 0 ≤ lv ∧ lv ≤ 40) (p_1 : 18 - lv ≤ (k : Int)) (p_2 : fk = 0) (p_3 : ln ≤ li) (p_4 : at0 < lf ∨ li ≤ ln) (p_5 : nd ≤ 2 * at0 + 32) (p_6 : sy ≤ na + 2) (p_7 : vi ≤ sy) (p_8 : at0 ≤ ac) (p_9 : -1 ≤ at0) (p_10 : sb ≤ sy), wk X dd 292 [.ref 66, .int (i32 lv)] (rV c0 c1 G A T) (fun o V' => ∃ (G' : Nat → Int) (A' : Nat → Nat → Int) (r : Int) (ln2 : Int) (at2 : Int) (fk2 : Int) (nd2 : Int) (sy2 : Int) (na2 : Int) (vi2 : Int) (lf2 : Int) (ec2 : Int), V' = rV c0 c1 G' A' T ∧ o = .inl (some (.int (i32 r))) ∧ Wk G' A' ∧ Fr [9, 10, 11, 12, 13, 14, 15, 16, 17, 18, 19, 28, 29, 31] [6, 7, 8, 9, 10, 11, 12, 14, 15, 16, 17, 18, 19, 20, 21, 22, 23, 24, 28] G A G' A' ∧ Pf nd A A' ∧ Fx sr (sy) A A' ∧ Fx [14] (vi) A A' ∧ ((-2147483648 : Int) ≤ r ∧ r ≤ 2147483647) ∧ G' 9 = ln2 ∧ G' 10 = at2 ∧ G' 16 = fk2 ∧ G' 31 = nd2 ∧ G' 19 = sy2 ∧ G' 28 = na2 ∧ G' 29 = vi2 ∧ A' 3 (ln2).toNat = lf2 ∧ ecn A' (G' 31) = ec2 ∧ (at0 ≤ at2) ∧ (nd ≤ nd2) ∧ (sy ≤ sy2) ∧ (sy2 ≤ na2 + 2) ∧ (vi2 = vi) ∧ (0 ≤ r) ∧ (r ≤ 6999) ∧ (ln ≤ ln2) ∧ (ln2 ≤ li) ∧ (((1 ≤ fk2) ∧ (nd2 - nd ≤ 2 * at2 - 2 * at0 + 12)) ∨ ((fk2 = 0) ∧ (ln < ln2) ∧ (nd2 - nd ≤ 2 * at2 - 2 * at0) ∧ (at2 < lf2 ∨ li ≤ ln2) ∧ (nd ≤ r) ∧ (r < nd2) ∧ (wP A' (sy2) pb (k) (Vs) (r) (nd) (nd2) (sy) (sy2)) ∧ (NX A' (r)) ∧ (nd2 - nd + 5 * (ec2 - ec) ≤ 2 * at2 - 2 * at0) ∧ (nd + 5 * ec ≤ r))))
set_option maxRecDepth 20000 in
set_option maxHeartbeats 4000000 in
theorem c_readChildren_w_at_6 {X : jX} {k : Nat} (hP : RPw X k) {zz : Int} {d : Nat} {Vs : Nat → Prop} {sb pb : Int} (hvb : VB Vs sb) {c0 c1 : jC} {G : Nat → Int} {A : Nat → Nat → Int} {T : jH} {n lv least mo : Int} {kk aa bb cc de xx : Int} {ln li at0 fk nd sy na vi lf ec : Int} (hd : 8 * k + 81 ≤ d + 1) (hW : Wk G A) (e_ln : G 9 = ln) (e_li : G 3 = li) (e_at0 : G 10 = at0) (e_fk : G 16 = fk) (e_nd : G 31 = nd) (e_sy : G 19 = sy) (e_na : G 28 = na) (e_vi : G 29 = vi) (e_lf : A 3 (ln).toNat = lf) (e_ec : ecn A (G 31) = ec) (i_LT : LT G A) (i_SV : SV Vs sb G A) (i_PQ : PQ Vs sb pb G A) (h_n : (-2147483648 : Int) ≤ n ∧ n ≤ 2147483647) (h_lv : (-2147483648 : Int) ≤ lv ∧ lv ≤ 2147483647) (h_least : (-2147483648 : Int) ≤ least ∧ least ≤ 2147483647) (h_mo : (-2147483648 : Int) ≤ mo ∧ mo ≤ 2147483647) (p_0 : 0 ≤ n ∧ n ≤ 6998) (p_1 : n < nd) (p_2 : 0 ≤ lv ∧ lv ≤ 15) (p_3 : 17 - lv ≤ (k : Int)) (p_4 : fk = 0) (p_5 : ln ≤ li) (p_6 : at0 < lf ∨ li ≤ ln) (p_7 : nd ≤ 2 * at0 + 32) (p_8 : sy ≤ na + 2) (p_9 : vi ≤ sy) (p_10 : 0 ≤ least ∧ least ≤ 2) (p_11 : 0 ≤ mo) (p_12 : zz ≤ n) (p_13 : nd = n + 1) (p_14 : sb ≤ sy) (p_15 : ND A (n) (kk) (aa) (bb) (cc) (de) (0) (xx)) : ∀ (m : Nat) (L : jL) (Gx : Nat → Int) (Ax : Nat → Nat → Int) (last many ln1 at1 fk1 nd1 sy1 na1 vi1 lf1 ec1 : Int), (li - ln1).toNat = m → jGet L 0 = some (.ref 66) → jGet L 1 = some (.int (i32 (n))) → jGet L 2 = some (.int (i32 (lv))) → jGet L 3 = some (.int (i32 (least))) → jGet L 4 = some (.int (i32 (mo))) → jGet L 5 = some (.int (i32 last)) → jGet L 6 = some (.int (i32 many)) → Wk Gx Ax → Fr [9, 10, 11, 12, 13, 14, 15, 16, 17, 18, 19, 28, 29, 31] [6, 7, 8, 9, 10, 11, 12, 14, 15, 16, 17, 18, 19, 20, 21, 22, 23, 24, 28] G A Gx Ax → Pf zz A Ax → Px (n) (nd) A Ax → Fx sr (sy) A Ax → Fx [14] (vi) A Ax → Gx 9 = ln1 → Gx 10 = at1 → Gx 16 = fk1 → Gx 31 = nd1 → Gx 19 = sy1 → Gx 28 = na1 → Gx 29 = vi1 → Ax 3 (ln1).toNat = lf1 → ecn Ax (Gx 31) = ec1 → ((-2147483648 : Int) ≤ last ∧ last ≤ 2147483647) → ((-2147483648 : Int) ≤ many ∧ many ≤ 2147483647) → (fk1 = 0) → (at0 ≤ at1) → (nd ≤ nd1) → (sy ≤ sy1) → (sy1 ≤ na1 + 2) → (vi1 = vi) → (ln ≤ ln1) → (ln1 ≤ li) → (nd1 - nd ≤ 2 * at1 - 2 * at0) → (at1 < lf1 ∨ li ≤ ln1) → (0 ≤ last ∧ last ≤ 6998) → (last = 0 ∨ n < last) → (last < nd1) → (0 ≤ many ∧ many ≤ ln1) → (many ≤ mo) → (ND Ax (n) (kk) (aa) (bb) (cc) (de) (Ax 21 (n).toNat) (xx)) → (CL 0 Ax (sy1) pb (k) (Vs) (n) (last) (many) (n + 1) (nd1) (sy) (sy1)) → (nd + 5 * ec ≤ nd1) → (nd1 - nd + 5 * (ec1 - ec) ≤ 2 * at1 - 2 * at0) → wj X d jm296 (6, L, [], rV c0 c1 Gx Ax T) (fun o V' => ∃ (G' : Nat → Int) (A' : Nat → Nat → Int) (ln2 : Int) (at2 : Int) (fk2 : Int) (nd2 : Int) (sy2 : Int) (na2 : Int) (vi2 : Int) (lf2 : Int) (mm : Int) (f2 : Int) (ec2 : Int), V' = rV c0 c1 G' A' T ∧ o = .inl none ∧ Wk G' A' ∧ Fr [9, 10, 11, 12, 13, 14, 15, 16, 17, 18, 19, 28, 29, 31] [6, 7, 8, 9, 10, 11, 12, 14, 15, 16, 17, 18, 19, 20, 21, 22, 23, 24, 28] G A G' A' ∧ Pf zz A A' ∧ Px (n) (nd) A A' ∧ Fx sr (sy) A A' ∧ Fx [14] (vi) A A' ∧ G' 9 = ln2 ∧ G' 10 = at2 ∧ G' 16 = fk2 ∧ G' 31 = nd2 ∧ G' 19 = sy2 ∧ G' 28 = na2 ∧ G' 29 = vi2 ∧ A' 3 (ln2).toNat = lf2 ∧ A' 18 (n).toNat = mm ∧ A' 21 (n).toNat = f2 ∧ ecn A' (G' 31) = ec2 ∧ (at0 ≤ at2) ∧ (nd ≤ nd2) ∧ (sy ≤ sy2) ∧ (sy2 ≤ na2 + 2) ∧ (ln ≤ ln2) ∧ (ln2 ≤ li) ∧ (vi2 = vi) ∧ (((1 ≤ fk2) ∧ (nd2 - nd ≤ 2 * at2 - 2 * at0 + 12)) ∨ ((fk2 = 0) ∧ (nd2 - nd ≤ 2 * at2 - 2 * at0) ∧ (at2 < lf2 ∨ li ≤ ln2) ∧ (least ≤ mm) ∧ (mm ≤ mo) ∧ (ND A' (n) (kk) (aa) (mm) (cc) (de) (f2) (xx)) ∧ (RL 0 A' (sy2) pb (k) (Vs) (n) (mm) (n + 1) (nd2) (sy) (sy2)) ∧ (nd2 - nd + 5 * (ec2 - ec) ≤ 2 * at2 - 2 * at0)))) := by
  have hF0 : Fr [9, 10, 11, 12, 13, 14, 15, 16, 17, 18, 19, 28, 29, 31] [6, 7, 8, 9, 10, 11, 12, 14, 15, 16, 17, 18, 19, 20, 21, 22, 23, 24, 28] G A G A := Fr_rf
  have hP0 : Pf zz A A := Pf_rf
  have hX0 : Px (n) (nd) A A := Px_rf
  have hS0 : Fx sr (sy) A A := Fx_rf
  have hV0 : Fx [14] (vi) A A := Fx_rf
  have b_ln : (0 : Int) ≤ ln ∧ ln ≤ 3000 := e_ln ▸ hW.1 9
  have b_li : (0 : Int) ≤ li ∧ li ≤ 3000 := e_li ▸ hW.1 3
  have b_at0 : (0 : Int) ≤ at0 ∧ at0 ≤ 3002 := e_at0 ▸ hW.1 10
  have b_fk : (0 : Int) ≤ fk ∧ fk ≤ 6 := e_fk ▸ hW.1 16
  have b_nd : (0 : Int) ≤ nd ∧ nd ≤ 6999 := e_nd ▸ hW.1 31
  have b_sy : (0 : Int) ≤ sy ∧ sy ≤ 202 := e_sy ▸ hW.1 19
  have b_na : (0 : Int) ≤ na ∧ na ≤ 200 := e_na ▸ hW.1 28
  have b_vi : (0 : Int) ≤ vi ∧ vi ≤ 202 := e_vi ▸ hW.1 29
  have b_lf : (0 : Int) ≤ lf ∧ lf ≤ 3000 := e_lf ▸ hW.2 3 _
  intro m
  induction m using Nat.strongRecOn with
  | ind m ih6 =>
    intro L Gx Ax last many ln1 at1 fk1 nd1 sy1 na1 vi1 lf1 ec1 hm gL_0 gL_1 gL_2 gL_3 gL_4 gL_5 gL_6 hWx hFx hPx hXx hSx hVx ex_ln1 ex_at1 ex_fk1 ex_nd1 ex_sy1 ex_na1 ex_vi1 ex_lf1 ex_ec1 rx_last rx_many iv_0 iv_1 iv_2 iv_3 iv_4 iv_5 iv_6 iv_7 iv_8 iv_9 iv_10 iv_11 iv_12 iv_13 iv_14 iv_15 iv_16 iv_17 iv_18
    have b_ln1 : (0 : Int) ≤ ln1 ∧ ln1 ≤ 3000 := ex_ln1 ▸ hWx.1 9
    have b_at1 : (0 : Int) ≤ at1 ∧ at1 ≤ 3002 := ex_at1 ▸ hWx.1 10
    have b_fk1 : (0 : Int) ≤ fk1 ∧ fk1 ≤ 6 := ex_fk1 ▸ hWx.1 16
    have b_nd1 : (0 : Int) ≤ nd1 ∧ nd1 ≤ 6999 := ex_nd1 ▸ hWx.1 31
    have b_sy1 : (0 : Int) ≤ sy1 ∧ sy1 ≤ 202 := ex_sy1 ▸ hWx.1 19
    have b_na1 : (0 : Int) ≤ na1 ∧ na1 ≤ 200 := ex_na1 ▸ hWx.1 28
    have b_vi1 : (0 : Int) ≤ vi1 ∧ vi1 ≤ 202 := ex_vi1 ▸ hWx.1 29
    refine jx_ld (pc' := 7) (l' := L) (st' := [.ref 66]) rfl (jl_aloadn gL_0) ?_
    refine jx_ld (pc' := 8) (l' := L) (st' := [.int (i32 (lv)), .ref 66]) rfl (jl_iloadn gL_2) ?_
    have b1 : (-1 : Int) ≤ A 5 (ln1).toNat ∧ A 5 (ln1).toNat ≤ 15 := hW.2 5 _
    refine jx_vr (pc' := 11) (as := [.int (i32 (lv))]) (st := []) rfl rfl rfl rfl ⟨rfl, rfl, Nat.le_of_ble_eq_true rfl⟩ rfl rfl (c_isBelow (dd := d) (hd := by omega) (hW := hWx) (lv := lv) (ln := ln1) (e_ln := show Gx 9 = ln1 from (ex_ln1)) (li := li) (e_li := show Gx 3 = li from ((hFx.1 3 rfl).trans (e_li))) (fk := fk1) (e_fk := show Gx 16 = fk1 from (ex_fk1)) (ll := A 5 (ln1).toNat) (e_ll := show Ax 5 (ln1).toNat = A 5 (ln1).toNat from (congrFun (hFx.2 5 rfl) _))  (h_lv := ⟨(Int.le_trans (by decide : (-2147483648 : Int) ≤ -2147483648) h_lv.1), (Int.le_trans h_lv.2 (by decide : (2147483647 : Int) ≤ 2147483647))⟩)  (p_0 := by omega)) (fun o V' hq => ?_)
    obtain ⟨G2, A3, r4, fk2_5, rfl, rfl, hW6, hF7, b8, e9, q10⟩ := hq
    have hF11 := Fr_tr hFx hF7 (Fr_sub (by decide)) (Fr_sub (by decide))
    have hP12 := Pf_f hPx hF7 (by decide)
    have hX13 := Px_f hXx hF7 (by decide)
    have hS14 := Fx_f hSx hF7 (by decide)
    have hV15 := Fx_f hVx hF7 (by decide)
    have sf16 : ND A3 (n) (kk) (aa) (bb) (cc) (de) (Ax 21 (n).toNat) (xx) := ND_ag (by omega) (Ag_fr hF7 (by decide)) iv_15
    have sf17 : CL 0 A3 (sy1) pb (k) (Vs) (n) (last) (many) (n + 1) (nd1) (sy) (sy1) := CL_ag (by omega) (by omega) (Sg_fr hF7 (by decide)) (Qg_fr hF7 (by decide)) (Ag_fr hF7 (by decide)) (congrFun (hF7.2 21 rfl) _) iv_16
    have ec18 : ecn A3 (G2 31) = ec1 := (ecn_f (hF7.2 15 rfl) (hF7.1 31 rfl)).trans ex_ec1
    have bfk2_5 : (0 : Int) ≤ fk2_5 ∧ fk2_5 ≤ 6 := e9 ▸ hW6.1 16
    refine .inr ⟨_, rfl, ?_⟩
    rcases q10 with ⟨rfl, a19, a20, a21, a22⟩ | ⟨rfl, a23⟩ | ⟨rfl, a24, a25, a26⟩
    · have _q : True := trivial
      have b27 : (0 : Int) ≤ A 4 (ln1).toNat ∧ A 4 (ln1).toNat ≤ 3000 := hW.2 4 _
      have lt28 : lf1 < A 4 (ln1).toNat := LT_at (LT_ext (((hF7.1 3 rfl).trans (hFx.1 3 rfl))) (((hF7.2 3 rfl).trans (hFx.2 3 rfl))) (((hF7.2 4 rfl).trans (hFx.2 4 rfl))) i_LT) (show G2 3 = li from ((hF7.1 3 rfl).trans ((hFx.1 3 rfl).trans (e_li)))) (show A3 3 (ln1).toNat = lf1 from (congrFun (hF7.2 3 rfl) _).trans (ex_lf1)) (show A3 4 (ln1).toNat = A 4 (ln1).toNat from (congrFun ((hF7.2 4 rfl).trans (hFx.2 4 rfl)) _)) (by omega) (by omega)
      refine jx_if_eq (pc' := 14) (tg := 98) rfl rfl rfl (by decide) (by decide) (fun h29 => ?_) (fun h29 => ?_)
      · have _q := h29
        exact absurd h29 (by omega)
      · have _q := h29
        refine jx_ld (pc' := 16) (l' := L) (st' := [.int (i32 (many))]) rfl (jl_iload gL_6) ?_
        refine jx_ld (pc' := 18) (l' := L) (st' := [.int (i32 (mo)), .int (i32 (many))]) rfl (jl_iload gL_4) ?_
        refine jx_icmp_ne (pc' := 21) (tg := 46) rfl rfl rfl (Int.le_trans (by decide : (-2147483648 : Int) ≤ -2147483648) rx_many.1) (Int.le_trans rx_many.2 (by decide : (2147483647 : Int) ≤ 2147483647)) (Int.le_trans (by decide : (-2147483648 : Int) ≤ -2147483648) h_mo.1) (Int.le_trans h_mo.2 (by decide : (2147483647 : Int) ≤ 2147483647)) (fun h30 => ?_) (fun h30 => ?_)
        · have _q := h30
          refine jx_ld (pc' := 47) (l' := L) (st' := [.ref 66]) rfl (jl_aloadn gL_0) ?_
          refine jx_ld (pc' := 48) (l' := L) (st' := [.int (i32 (lv)), .ref 66]) rfl (jl_iloadn gL_2) ?_
          refine jx_ar (pc' := 49) (st' := [.int (i32 (1)), .int (i32 (lv)), .ref 66]) rfl rfl rfl rfl ?_
          refine jx_add (pc' := 50) rfl rfl ?_
          refine jx_vr (pc' := 53) (as := [.int (i32 ((lv + 1)))]) (st := []) rfl rfl rfl rfl ⟨rfl, rfl, Nat.le_of_ble_eq_true rfl⟩ rfl rfl (hP (dd := d) (hd := by omega) (hW := hW6) (lv := (lv + 1)) (at0 := at1) (ln := ln1) (e_ln := show G2 9 = ln1 from ((hF7.1 9 rfl).trans (ex_ln1))) (li := li) (e_li := show G2 3 = li from ((hF7.1 3 rfl).trans ((hFx.1 3 rfl).trans (e_li)))) (fk := fk2_5) (e_fk := show G2 16 = fk2_5 from (e9)) (nd := nd1) (e_nd := show G2 31 = nd1 from ((hF7.1 31 rfl).trans (ex_nd1))) (sy := sy1) (e_sy := show G2 19 = sy1 from ((hF7.1 19 rfl).trans (ex_sy1))) (na := na1) (e_na := show G2 28 = na1 from ((hF7.1 28 rfl).trans (ex_na1))) (vi := vi1) (e_vi := show G2 29 = vi1 from ((hF7.1 29 rfl).trans (ex_vi1))) (lf := lf1) (e_lf := show A3 3 (ln1).toNat = lf1 from (congrFun (hF7.2 3 rfl) _).trans (ex_lf1)) (ac := at1) (e_ac := show G2 10 = at1 from ((hF7.1 10 rfl).trans (ex_at1))) (ec := ec1) (e_ec := show ecn A3 (G2 31) = ec1 from ec18) (i_LT := (LT_ext (((hF7.1 3 rfl).trans (hFx.1 3 rfl))) (((hF7.2 3 rfl).trans (hFx.2 3 rfl))) (((hF7.2 4 rfl).trans (hFx.2 4 rfl))) i_LT)) (i_SV := (SV_fx i_SV e_vi (show G2 29 = vi1 from ((hF7.1 29 rfl).trans (ex_vi1))) (by omega) hV15)) (i_PQ := (PQ_fx i_PQ hS14 (by omega) (hF11.2 29 rfl) (hF11.2 30 rfl))) (hvb := hvb) (h_lv := ⟨(by omega), (by omega)⟩)  (p_0 := by omega) (p_1 := by omega) (p_2 := by omega) (p_3 := by omega) (p_4 := by omega) (p_5 := by omega) (p_6 := by omega) (p_7 := by omega) (p_8 := by omega) (p_9 := by omega) (p_10 := by omega)) (fun o V' hq => ?_)
          obtain ⟨G31, A32, r33, ln2_34, at2_35, fk2_36, nd2_37, sy2_38, na2_39, vi2_40, lf2_41, ec2_42, rfl, rfl, hW43, hF44, hQ45, hQ46, hQ47, b48, e49, e50, e51, e52, e53, e54, e55, e56, e57, p58, p59, p60, p61, p62, p63, p64, p65, p66, q67⟩ := hq
          have hF68 := Fr_tr hF11 hF44 (Fr_sub (by decide)) (Fr_sub (by decide))
          have hP69 := Pf_tr hP12 hQ45 (by omega)
          have hX70 := Px_p hX13 hQ45 (by omega)
          have hS71 := Fx_tr hS14 hQ46 (by omega)
          have hV72 := Fx_tr hV15 hQ47 (by omega)
          have sf73 : ND A32 (n) (kk) (aa) (bb) (cc) (de) (Ax 21 (n).toNat) (xx) := ND_ag (by omega) (Ag_pf hQ45 (by omega)) sf16
          have sf74 : CL 0 A32 (sy1) pb (k) (Vs) (n) (last) (many) (n + 1) (nd1) (sy) (sy1) := CL_ag (by omega) (by omega) (Fx_su hQ46 (by omega)) (Qg_fr hF44 (by decide)) (Ag_pf hQ45 (by omega)) (hQ45 21 _ rfl (by omega)) sf17
          have bln2_34 : (0 : Int) ≤ ln2_34 ∧ ln2_34 ≤ 3000 := e49 ▸ hW43.1 9
          have bat2_35 : (0 : Int) ≤ at2_35 ∧ at2_35 ≤ 3002 := e50 ▸ hW43.1 10
          have bfk2_36 : (0 : Int) ≤ fk2_36 ∧ fk2_36 ≤ 6 := e51 ▸ hW43.1 16
          have bnd2_37 : (0 : Int) ≤ nd2_37 ∧ nd2_37 ≤ 6999 := e52 ▸ hW43.1 31
          have bsy2_38 : (0 : Int) ≤ sy2_38 ∧ sy2_38 ≤ 202 := e53 ▸ hW43.1 19
          have bna2_39 : (0 : Int) ≤ na2_39 ∧ na2_39 ≤ 200 := e54 ▸ hW43.1 28
          have bvi2_40 : (0 : Int) ≤ vi2_40 ∧ vi2_40 ≤ 202 := e55 ▸ hW43.1 29
          have blf2_41 : (0 : Int) ≤ lf2_41 ∧ lf2_41 ≤ 3000 := e56 ▸ hW43.2 3 _
          refine .inr ⟨_, rfl, ?_⟩
          rcases q67 with ⟨a75, a76⟩ | ⟨a77, a78, a79, a80, a81, a82, a83, a84, a85, a86⟩
          · have _q : True := trivial
            refine jx_ld (pc' := 55) (l' := jSto1 L 7 (.int (i32 (r33)))) (st' := []) rfl rfl ?_
            obtain ⟨L87, eL87⟩ : ∃ q, q = jSto1 L 7 (.int (i32 (r33))) := ⟨_, rfl⟩
            rw [← eL87]
            have gL87_0 : jGet L87 0 = some (.ref 66) := eL87 ▸ jg_ne (by decide) gL_0 rfl
            have gL87_1 : jGet L87 1 = some (.int (i32 (n))) := eL87 ▸ jg_ne (by decide) gL_1 rfl
            have gL87_2 : jGet L87 2 = some (.int (i32 (lv))) := eL87 ▸ jg_ne (by decide) gL_2 rfl
            have gL87_3 : jGet L87 3 = some (.int (i32 (least))) := eL87 ▸ jg_ne (by decide) gL_3 rfl
            have gL87_4 : jGet L87 4 = some (.int (i32 (mo))) := eL87 ▸ jg_ne (by decide) gL_4 rfl
            have gL87_5 : jGet L87 5 = some (.int (i32 (last))) := eL87 ▸ jg_ne (by decide) gL_5 rfl
            have gL87_6 : jGet L87 6 = some (.int (i32 (many))) := eL87 ▸ jg_ne (by decide) gL_6 rfl
            have gL87_7 : jGet L87 7 = some (.int (i32 (r33))) := eL87 ▸ jg_eq
            refine jx_ld (pc' := 56) (l' := L87) (st' := [.ref 66]) rfl (jl_aloadn gL87_0) ?_
            refine jx_vr (pc' := 59) (as := []) (st := []) rfl rfl rfl rfl ⟨rfl, rfl, Nat.le_of_ble_eq_true rfl⟩ rfl rfl (c_bad (dd := d) (hd := by omega) (hW := hW43)  (fk := fk2_36) (e_fk := show G31 16 = fk2_36 from (e51))    ) (fun o V' hq => ?_)
            obtain ⟨r88, rfl, rfl, b89, q90⟩ := hq
            refine .inr ⟨_, rfl, ?_⟩
            rcases q90 with ⟨rfl, a91⟩ | ⟨rfl, a92⟩
            · have _q : True := trivial
              refine jx_if_eq (pc' := 62) (tg := 63) rfl rfl rfl (by decide) (by decide) (fun h93 => ?_) (fun h93 => ?_)
              · have _q := h93
                exact absurd h93 (by omega)
              · have _q := h93
                refine jx_rt (v := none) rfl rfl rfl rfl rfl rfl ?_
                exact ⟨_, _, ln2_34, at2_35, fk2_36, nd2_37, sy2_38, na2_39, vi2_40, lf2_41, A32 18 (n).toNat, A32 21 (n).toNat, ec2_42, rfl, rfl, hW43, hF68, hP69, hX70, hS71, hV72, (e49), (e50), (e51), (e52), (e53), (e54), (e55), (e56), rfl, rfl, e57, by omega, by omega, by omega, by omega, by omega, by omega, by omega, by first | exact Or.inl (⟨by omega, by omega⟩)⟩
            · have _q : True := trivial
              exfalso
              omega
          · have _q : True := trivial
            refine jx_ld (pc' := 55) (l' := jSto1 L 7 (.int (i32 (r33)))) (st' := []) rfl rfl ?_
            obtain ⟨L94, eL94⟩ : ∃ q, q = jSto1 L 7 (.int (i32 (r33))) := ⟨_, rfl⟩
            rw [← eL94]
            have gL94_0 : jGet L94 0 = some (.ref 66) := eL94 ▸ jg_ne (by decide) gL_0 rfl
            have gL94_1 : jGet L94 1 = some (.int (i32 (n))) := eL94 ▸ jg_ne (by decide) gL_1 rfl
            have gL94_2 : jGet L94 2 = some (.int (i32 (lv))) := eL94 ▸ jg_ne (by decide) gL_2 rfl
            have gL94_3 : jGet L94 3 = some (.int (i32 (least))) := eL94 ▸ jg_ne (by decide) gL_3 rfl
            have gL94_4 : jGet L94 4 = some (.int (i32 (mo))) := eL94 ▸ jg_ne (by decide) gL_4 rfl
            have gL94_5 : jGet L94 5 = some (.int (i32 (last))) := eL94 ▸ jg_ne (by decide) gL_5 rfl
            have gL94_6 : jGet L94 6 = some (.int (i32 (many))) := eL94 ▸ jg_ne (by decide) gL_6 rfl
            have gL94_7 : jGet L94 7 = some (.int (i32 (r33))) := eL94 ▸ jg_eq
            refine jx_ld (pc' := 56) (l' := L94) (st' := [.ref 66]) rfl (jl_aloadn gL94_0) ?_
            refine jx_vr (pc' := 59) (as := []) (st := []) rfl rfl rfl rfl ⟨rfl, rfl, Nat.le_of_ble_eq_true rfl⟩ rfl rfl (c_bad (dd := d) (hd := by omega) (hW := hW43)  (fk := fk2_36) (e_fk := show G31 16 = fk2_36 from (e51))    ) (fun o V' hq => ?_)
            obtain ⟨r95, rfl, rfl, b96, q97⟩ := hq
            refine .inr ⟨_, rfl, ?_⟩
            rcases q97 with ⟨rfl, a98⟩ | ⟨rfl, a99⟩
            · have _q : True := trivial
              exfalso
              omega
            · have _q : True := trivial
              refine jx_if_eq (pc' := 62) (tg := 63) rfl rfl rfl (by decide) (by decide) (fun h100 => ?_) (fun h100 => ?_)
              · have _q := h100
                refine jx_ld (pc' := 65) (l' := L94) (st' := [.int (i32 (last))]) rfl (jl_iload gL94_5) ?_
                refine jx_if_ne (pc' := 68) (tg := 79) rfl rfl rfl (Int.le_trans (by decide : (-2147483648 : Int) ≤ -2147483648) rx_last.1) (Int.le_trans rx_last.2 (by decide : (2147483647 : Int) ≤ 2147483647)) (fun h101 => ?_) (fun h101 => ?_)
                · have _q := h101
                  refine jx_ld (pc' := 80) (l' := L94) (st' := [.ref 66]) rfl (jl_aloadn gL94_0) ?_
                  refine jr_get (pc' := 83) (i := 39) (v := .ref 89) rfl rfl (by decide) rfl rfl ?_
                  refine jx_ld (pc' := 85) (l' := L94) (st' := [.int (i32 (last)), .ref 89]) rfl (jl_iload gL94_5) ?_
                  refine jx_ld (pc' := 87) (l' := L94) (st' := [.int (i32 (r33)), .int (i32 (last)), .ref 89]) rfl (jl_iload gL94_7) ?_
                  refine jr_st (pc' := 88) (i := 22) (m := 7000) (z := last) (y := r33) rfl (by decide) rfl (by decide) (by omega) (by omega) rfl ?_
                  have hW103 : Wk G31 (uA A32 22 (last).toNat (r33)) := Wk_a hW43 (show (-2147483648 : Int) ≤ r33 by omega) (show r33 ≤ (2147483647 : Int) by omega)
                  have hF104 := Fr_a (z := r33) (k := 22) (n := (last).toNat) hF68 (by decide)
                  obtain ⟨A102, eA102⟩ : ∃ q, q = uA A32 22 (last).toNat (r33) := ⟨_, rfl⟩
                  rw [← eA102]
                  rw [← eA102] at hW103 hF104
                  have q105 : A102 22 (last).toNat = r33 := by rw [eA102]; exact uA_eq
                  have hP106 : Pf zz A A102 := eA102 ▸ Pf_a hP69 (z := last) (by omega) (by omega)
                  have hX107 : Px (n) (nd) A A102 := eA102 ▸ Px_a hX70 (z := last) (by omega) (by omega)
                  have hS108 : Fx sr (sy) A A102 := eA102 ▸ Fx_n hS71 rfl
                  have hV109 : Fx [14] (vi) A A102 := eA102 ▸ Fx_n hV72 rfl
                  have sf110 : ND A102 (n) (kk) (aa) (bb) (cc) (de) (Ax 21 (n).toNat) (xx) := ND_ag (by omega) (Ag_st eA102 (by omega) (by omega)) sf73
                  have sf111 : CL 0 A102 (sy2_38) pb (k) (Vs) (n) (r33) (many + 1) (n + 1) (nd2_37) (sy) (sy2_38) := CL_two eA102 (by omega) (by omega) (by omega) (by omega) (by omega) (show RQ 0 A32 (sy2_38) pb (k) (Vs) (r33) (nd1) (nd2_37) (sy1) (sy2_38) from wP_eq a83 (by omega) rfl rfl (by omega) rfl (by omega) rfl (by omega)) a84 (CL_sb (by omega) sf74)
                  have sf112 : wP A102 (sy2_38) pb (k) (Vs) (r33) (nd1) (nd2_37) (sy1) (sy2_38) := wP_ag (Sg_ne eA102 rfl) (Qg_ne eA102 rfl) (by omega) (by omega) (Ax_ag (Ag_st eA102 (by omega) (by omega))) a83
                  have sf113 : NX A102 (r33) := NX_ag (by omega) (Ag_st eA102 (by omega) (by omega)) a84
                  have ec114 : ecn A102 (G31 31) = ec2_42 := (ecn_e ((congrFun eA102 15).trans (uA_ne (by decide)))).trans e57
                  refine jx_ld (pc' := 90) (l' := L94) (st' := [.int (i32 (r33))]) rfl (jl_iload gL94_7) ?_
                  refine jx_ld (pc' := 92) (l' := jSto1 L94 5 (.int (i32 (r33)))) (st' := []) rfl rfl ?_
                  obtain ⟨L115, eL115⟩ : ∃ q, q = jSto1 L94 5 (.int (i32 (r33))) := ⟨_, rfl⟩
                  rw [← eL115]
                  have gL115_0 : jGet L115 0 = some (.ref 66) := eL115 ▸ jg_ne (by decide) gL94_0 rfl
                  have gL115_1 : jGet L115 1 = some (.int (i32 (n))) := eL115 ▸ jg_ne (by decide) gL94_1 rfl
                  have gL115_2 : jGet L115 2 = some (.int (i32 (lv))) := eL115 ▸ jg_ne (by decide) gL94_2 rfl
                  have gL115_3 : jGet L115 3 = some (.int (i32 (least))) := eL115 ▸ jg_ne (by decide) gL94_3 rfl
                  have gL115_4 : jGet L115 4 = some (.int (i32 (mo))) := eL115 ▸ jg_ne (by decide) gL94_4 rfl
                  have gL115_6 : jGet L115 6 = some (.int (i32 (many))) := eL115 ▸ jg_ne (by decide) gL94_6 rfl
                  have gL115_7 : jGet L115 7 = some (.int (i32 (r33))) := eL115 ▸ jg_ne (by decide) gL94_7 rfl
                  have gL115_5 : jGet L115 5 = some (.int (i32 (r33))) := eL115 ▸ jg_eq
                  refine jx_inc (pc' := 95) (l' := jSto1 L115 6 (.int (i32 ((many + (1)))))) (x := many) rfl gL115_6 (by decide) rfl rfl ?_
                  obtain ⟨L116, eL116⟩ : ∃ q, q = jSto1 L115 6 (.int (i32 ((many + (1))))) := ⟨_, rfl⟩
                  rw [← eL116]
                  have gL116_0 : jGet L116 0 = some (.ref 66) := eL116 ▸ jg_ne (by decide) gL115_0 rfl
                  have gL116_1 : jGet L116 1 = some (.int (i32 (n))) := eL116 ▸ jg_ne (by decide) gL115_1 rfl
                  have gL116_2 : jGet L116 2 = some (.int (i32 (lv))) := eL116 ▸ jg_ne (by decide) gL115_2 rfl
                  have gL116_3 : jGet L116 3 = some (.int (i32 (least))) := eL116 ▸ jg_ne (by decide) gL115_3 rfl
                  have gL116_4 : jGet L116 4 = some (.int (i32 (mo))) := eL116 ▸ jg_ne (by decide) gL115_4 rfl
                  have gL116_7 : jGet L116 7 = some (.int (i32 (r33))) := eL116 ▸ jg_ne (by decide) gL115_7 rfl
                  have gL116_5 : jGet L116 5 = some (.int (i32 (r33))) := eL116 ▸ jg_ne (by decide) gL115_5 rfl
                  have gL116_6 : jGet L116 6 = some (.int (i32 ((many + (1))))) := eL116 ▸ jg_eq
                  refine jx_go (tg := 6) rfl rfl ?_
                  exact ih6 _ (by omega) L116 G31 A102 (r33) ((many + (1))) (ln2_34) (at2_35) (fk2_36) (nd2_37) (sy2_38) (na2_39) (vi2_40) (lf2_41) (ec2_42) rfl gL116_0 gL116_1 gL116_2 gL116_3 gL116_4 gL116_5 gL116_6 hW103 hF104 hP106 hX107 hS108 hV109 ((e49)) ((e50)) ((e51)) ((e52)) ((e53)) ((e54)) ((e55)) ((congrFun ((congrFun eA102 3).trans (uA_ne (by decide))) _).trans (e56)) (ec114) (by omega) (by omega) (by omega) (by omega) (by omega) (by omega) (by omega) (by omega) (by omega) (by omega) (by omega) (by omega) (by omega) (by omega) (by omega) (by omega) (by omega) ((ND_sf sf110)) ((CL_eq (CL_sb (by omega) sf111) (by omega) (by omega) (by omega) (by omega) (by omega) (by omega))) (by omega) (by omega)
                · have _q := h101
                  refine jx_ld (pc' := 69) (l' := L94) (st' := [.ref 66]) rfl (jl_aloadn gL94_0) ?_
                  refine jr_get (pc' := 72) (i := 38) (v := .ref 88) rfl rfl (by decide) rfl rfl ?_
                  refine jx_ld (pc' := 73) (l' := L94) (st' := [.int (i32 (n)), .ref 88]) rfl (jl_iloadn gL94_1) ?_
                  refine jx_ld (pc' := 75) (l' := L94) (st' := [.int (i32 (r33)), .int (i32 (n)), .ref 88]) rfl (jl_iload gL94_7) ?_
                  refine jr_st (pc' := 76) (i := 21) (m := 7000) (z := n) (y := r33) rfl (by decide) rfl (by decide) (by omega) (by omega) rfl ?_
                  have hW118 : Wk G31 (uA A32 21 (n).toNat (r33)) := Wk_a hW43 (show (-2147483648 : Int) ≤ r33 by omega) (show r33 ≤ (2147483647 : Int) by omega)
                  have hF119 := Fr_a (z := r33) (k := 21) (n := (n).toNat) hF68 (by decide)
                  obtain ⟨A117, eA117⟩ : ∃ q, q = uA A32 21 (n).toNat (r33) := ⟨_, rfl⟩
                  rw [← eA117]
                  rw [← eA117] at hW118 hF119
                  have q120 : A117 21 (n).toNat = r33 := by rw [eA117]; exact uA_eq
                  have hP121 : Pf zz A A117 := eA117 ▸ Pf_a hP69 (z := n) (by omega) (by omega)
                  have hX122 : Px (n) (nd) A A117 := eA117 ▸ Px_a hX70 (z := n) (by omega) (by omega)
                  have hS123 : Fx sr (sy) A A117 := eA117 ▸ Fx_n hS71 rfl
                  have hV124 : Fx [14] (vi) A A117 := eA117 ▸ Fx_n hV72 rfl
                  have sf125 : ND A117 (n) (kk) (aa) (bb) (cc) (de) (r33) (xx) := ND_f eA117 sf73
                  have sf126 : CL 0 A117 (sy2_38) pb (k) (Vs) (n) (r33) (many + 1) (n + 1) (nd2_37) (sy) (sy2_38) := CL_one eA117 (by omega) (by omega) (by omega) (by omega) (by omega) (by omega) (show RQ 0 A32 (sy2_38) pb (k) (Vs) (r33) (nd1) (nd2_37) (sy1) (sy2_38) from wP_eq a83 (by omega) rfl rfl (by omega) rfl (by omega) rfl (by omega)) a84 (CL_sb (by omega) sf74)
                  have sf127 : wP A117 (sy2_38) pb (k) (Vs) (r33) (nd1) (nd2_37) (sy1) (sy2_38) := wP_ag (Sg_ne eA117 rfl) (Qg_ne eA117 rfl) (by omega) (by omega) (Ax_ag (Ag_st eA117 (by omega) (by omega))) a83
                  have sf128 : NX A117 (r33) := NX_r eA117 (by decide) a84
                  have ec129 : ecn A117 (G31 31) = ec2_42 := (ecn_e ((congrFun eA117 15).trans (uA_ne (by decide)))).trans e57
                  refine jx_go (tg := 88) rfl rfl ?_
                  refine jx_ld (pc' := 90) (l' := L94) (st' := [.int (i32 (r33))]) rfl (jl_iload gL94_7) ?_
                  refine jx_ld (pc' := 92) (l' := jSto1 L94 5 (.int (i32 (r33)))) (st' := []) rfl rfl ?_
                  obtain ⟨L130, eL130⟩ : ∃ q, q = jSto1 L94 5 (.int (i32 (r33))) := ⟨_, rfl⟩
                  rw [← eL130]
                  have gL130_0 : jGet L130 0 = some (.ref 66) := eL130 ▸ jg_ne (by decide) gL94_0 rfl
                  have gL130_1 : jGet L130 1 = some (.int (i32 (n))) := eL130 ▸ jg_ne (by decide) gL94_1 rfl
                  have gL130_2 : jGet L130 2 = some (.int (i32 (lv))) := eL130 ▸ jg_ne (by decide) gL94_2 rfl
                  have gL130_3 : jGet L130 3 = some (.int (i32 (least))) := eL130 ▸ jg_ne (by decide) gL94_3 rfl
                  have gL130_4 : jGet L130 4 = some (.int (i32 (mo))) := eL130 ▸ jg_ne (by decide) gL94_4 rfl
                  have gL130_6 : jGet L130 6 = some (.int (i32 (many))) := eL130 ▸ jg_ne (by decide) gL94_6 rfl
                  have gL130_7 : jGet L130 7 = some (.int (i32 (r33))) := eL130 ▸ jg_ne (by decide) gL94_7 rfl
                  have gL130_5 : jGet L130 5 = some (.int (i32 (r33))) := eL130 ▸ jg_eq
                  refine jx_inc (pc' := 95) (l' := jSto1 L130 6 (.int (i32 ((many + (1)))))) (x := many) rfl gL130_6 (by decide) rfl rfl ?_
                  obtain ⟨L131, eL131⟩ : ∃ q, q = jSto1 L130 6 (.int (i32 ((many + (1))))) := ⟨_, rfl⟩
                  rw [← eL131]
                  have gL131_0 : jGet L131 0 = some (.ref 66) := eL131 ▸ jg_ne (by decide) gL130_0 rfl
                  have gL131_1 : jGet L131 1 = some (.int (i32 (n))) := eL131 ▸ jg_ne (by decide) gL130_1 rfl
                  have gL131_2 : jGet L131 2 = some (.int (i32 (lv))) := eL131 ▸ jg_ne (by decide) gL130_2 rfl
                  have gL131_3 : jGet L131 3 = some (.int (i32 (least))) := eL131 ▸ jg_ne (by decide) gL130_3 rfl
                  have gL131_4 : jGet L131 4 = some (.int (i32 (mo))) := eL131 ▸ jg_ne (by decide) gL130_4 rfl
                  have gL131_7 : jGet L131 7 = some (.int (i32 (r33))) := eL131 ▸ jg_ne (by decide) gL130_7 rfl
                  have gL131_5 : jGet L131 5 = some (.int (i32 (r33))) := eL131 ▸ jg_ne (by decide) gL130_5 rfl
                  have gL131_6 : jGet L131 6 = some (.int (i32 ((many + (1))))) := eL131 ▸ jg_eq
                  refine jx_go (tg := 6) rfl rfl ?_
                  exact ih6 _ (by omega) L131 G31 A117 (r33) ((many + (1))) (ln2_34) (at2_35) (fk2_36) (nd2_37) (sy2_38) (na2_39) (vi2_40) (lf2_41) (ec2_42) rfl gL131_0 gL131_1 gL131_2 gL131_3 gL131_4 gL131_5 gL131_6 hW118 hF119 hP121 hX122 hS123 hV124 ((e49)) ((e50)) ((e51)) ((e52)) ((e53)) ((e54)) ((e55)) ((congrFun ((congrFun eA117 3).trans (uA_ne (by decide))) _).trans (e56)) (ec129) (by omega) (by omega) (by omega) (by omega) (by omega) (by omega) (by omega) (by omega) (by omega) (by omega) (by omega) (by omega) (by omega) (by omega) (by omega) (by omega) (by omega) ((ND_sf sf125)) ((CL_eq (CL_sb (by omega) sf126) (by omega) (by omega) (by omega) (by omega) (by omega) (by omega))) (by omega) (by omega)
              · have _q := h100
                exact absurd h100 (by omega)
        · have _q := h30
          refine jx_ld (pc' := 22) (l' := L) (st' := [.ref 66]) rfl (jl_aloadn gL_0) ?_
          refine jx_ar (pc' := 23) (st' := [.int (i32 (1)), .ref 66]) rfl rfl rfl rfl ?_
          refine jx_ld (pc' := 24) (l' := L) (st' := [.ref 66, .int (i32 (1)), .ref 66]) rfl (jl_aloadn gL_0) ?_
          refine jr_get (pc' := 27) (i := 6) (v := .ref 70) rfl rfl (by decide) rfl rfl ?_
          refine jx_ld (pc' := 28) (l' := L) (st' := [.ref 66, .ref 70, .int (i32 (1)), .ref 66]) rfl (jl_aloadn gL_0) ?_
          refine jr_get (pc' := 31) (i := 9) (v := .int (i32 (ln1))) rfl rfl (by decide) (rFv_eq (by decide) (show G2 9 = ln1 from ((hF7.1 9 rfl).trans (ex_ln1)))) rfl ?_
          refine jr_ldv (pc' := 32) (i := 3) (m := 3001) (z := ln1) (y := lf1) rfl (by decide) rfl (by decide) (Int.le_trans (by decide : (0 : Int) ≤ 0) b_ln1.1) (Int.lt_of_le_of_lt b_ln1.2 (by decide : (3000 : Int) < ((3001 : Nat) : Int))) rfl (show A3 3 (ln1).toNat = lf1 from (congrFun (hF7.2 3 rfl) _).trans (ex_lf1)) ?_
          refine jx_ld (pc' := 33) (l' := L) (st' := [.ref 66, .int (i32 (lf1)), .int (i32 (1)), .ref 66]) rfl (jl_aloadn gL_0) ?_
          refine jr_get (pc' := 36) (i := 5) (v := .ref 69) rfl rfl (by decide) rfl rfl ?_
          refine jx_ld (pc' := 37) (l' := L) (st' := [.ref 66, .ref 69, .int (i32 (lf1)), .int (i32 (1)), .ref 66]) rfl (jl_aloadn gL_0) ?_
          refine jr_get (pc' := 40) (i := 9) (v := .int (i32 (ln1))) rfl rfl (by decide) (rFv_eq (by decide) (show G2 9 = ln1 from ((hF7.1 9 rfl).trans (ex_ln1)))) rfl ?_
          have b132 : (0 : Int) ≤ A 2 (ln1).toNat ∧ A 2 (ln1).toNat ≤ 3000 := hW.2 2 _
          refine jr_ldv (pc' := 41) (i := 2) (m := 3001) (z := ln1) (y := A 2 (ln1).toNat) rfl (by decide) rfl (by decide) (Int.le_trans (by decide : (0 : Int) ≤ 0) b_ln1.1) (Int.lt_of_le_of_lt b_ln1.2 (by decide : (3000 : Int) < ((3001 : Nat) : Int))) rfl (show A3 2 (ln1).toNat = A 2 (ln1).toNat from (congrFun ((hF7.2 2 rfl).trans (hFx.2 2 rfl)) _)) ?_
          refine jx_sub (pc' := 42) rfl rfl ?_
          refine jx_vr (pc' := 45) (as := [.int (i32 (1)), .int (i32 ((lf1 - A 2 (ln1).toNat)))]) (st := []) rfl rfl rfl rfl ⟨rfl, rfl, Nat.le_of_ble_eq_true rfl⟩ rfl rfl (c_fail (dd := d) (hd := by omega) (hW := hW6) (kind := 1) (place := (lf1 - A 2 (ln1).toNat)) (fk := fk2_5) (e_fk := show G2 16 = fk2_5 from (e9))  (h_kind := ⟨(by decide), (by decide)⟩) (h_place := ⟨(by omega), (by omega)⟩)  (p_0 := by omega) (p_1 := by omega)) (fun o V' hq => ?_)
          obtain ⟨G133, A134, fk2_135, rfl, rfl, hW136, hF137, e138, p139, -⟩ := hq
          have hF141 := Fr_tr hF11 hF137 (Fr_sub (by decide)) (Fr_sub (by decide))
          have hP142 := Pf_f hP12 hF137 (by decide)
          have hX143 := Px_f hX13 hF137 (by decide)
          have hS144 := Fx_f hS14 hF137 (by decide)
          have hV145 := Fx_f hV15 hF137 (by decide)
          have sf146 : ND A134 (n) (kk) (aa) (bb) (cc) (de) (Ax 21 (n).toNat) (xx) := ND_ag (by omega) (Ag_fr hF137 (by decide)) sf16
          have sf147 : CL 0 A134 (sy1) pb (k) (Vs) (n) (last) (many) (n + 1) (nd1) (sy) (sy1) := CL_ag (by omega) (by omega) (Sg_fr hF137 (by decide)) (Qg_fr hF137 (by decide)) (Ag_fr hF137 (by decide)) (congrFun (hF137.2 21 rfl) _) sf17
          have ec148 : ecn A134 (G133 31) = ec1 := (ecn_f (hF137.2 15 rfl) (hF137.1 31 rfl)).trans ec18
          have bfk2_135 : (0 : Int) ≤ fk2_135 ∧ fk2_135 ≤ 6 := e138 ▸ hW136.1 16
          refine .inl ⟨rfl, ?_⟩
          refine jx_rt (v := none) rfl rfl rfl rfl rfl rfl ?_
          exact ⟨_, _, ln1, at1, fk2_135, nd1, sy1, na1, vi1, lf1, Ax 18 (n).toNat, Ax 21 (n).toNat, ec1, rfl, rfl, hW136, hF141, hP142, hX143, hS144, hV145, ((hF137.1 9 rfl).trans ((hF7.1 9 rfl).trans (ex_ln1))), ((hF137.1 10 rfl).trans ((hF7.1 10 rfl).trans (ex_at1))), (e138), ((hF137.1 31 rfl).trans ((hF7.1 31 rfl).trans (ex_nd1))), ((hF137.1 19 rfl).trans ((hF7.1 19 rfl).trans (ex_sy1))), ((hF137.1 28 rfl).trans ((hF7.1 28 rfl).trans (ex_na1))), ((hF137.1 29 rfl).trans ((hF7.1 29 rfl).trans (ex_vi1))), (congrFun ((hF137.2 3 rfl).trans (hF7.2 3 rfl)) _).trans (ex_lf1), (congrFun ((hF137.2 18 rfl).trans (hF7.2 18 rfl)) _), (congrFun ((hF137.2 21 rfl).trans (hF7.2 21 rfl)) _), ec148, by omega, by omega, by omega, by omega, by omega, by omega, by omega, by first | exact Or.inl (⟨by omega, by omega⟩)⟩
    · have _q : True := trivial
      refine jx_if_eq (pc' := 14) (tg := 98) rfl rfl rfl (by decide) (by decide) (fun h149 => ?_) (fun h149 => ?_)
      · have _q := h149
        refine jx_ld (pc' := 99) (l' := L) (st' := [.ref 66]) rfl (jl_aloadn gL_0) ?_
        refine jx_vr (pc' := 102) (as := []) (st := []) rfl rfl rfl rfl ⟨rfl, rfl, Nat.le_of_ble_eq_true rfl⟩ rfl rfl (c_bad (dd := d) (hd := by omega) (hW := hW6)  (fk := fk2_5) (e_fk := show G2 16 = fk2_5 from (e9))    ) (fun o V' hq => ?_)
        obtain ⟨r150, rfl, rfl, b151, q152⟩ := hq
        refine .inr ⟨_, rfl, ?_⟩
        rcases q152 with ⟨rfl, a153⟩ | ⟨rfl, a154⟩
        · have _q : True := trivial
          refine jx_if_ne (pc' := 105) (tg := 119) rfl rfl rfl (by decide) (by decide) (fun h155 => ?_) (fun h155 => ?_)
          · have _q := h155
            refine jx_ld (pc' := 120) (l' := L) (st' := [.ref 66]) rfl (jl_aloadn gL_0) ?_
            refine jr_get (pc' := 123) (i := 35) (v := .ref 85) rfl rfl (by decide) rfl rfl ?_
            refine jx_ld (pc' := 124) (l' := L) (st' := [.int (i32 (n)), .ref 85]) rfl (jl_iloadn gL_1) ?_
            refine jx_ld (pc' := 126) (l' := L) (st' := [.int (i32 (many)), .int (i32 (n)), .ref 85]) rfl (jl_iload gL_6) ?_
            refine jr_st (pc' := 127) (i := 18) (m := 7000) (z := n) (y := many) rfl (by decide) rfl (by decide) (by omega) (by omega) rfl ?_
            have hW157 : Wk G2 (uA A3 18 (n).toNat (many)) := Wk_a hW6 (show (-2147483648 : Int) ≤ many by omega) (show many ≤ (2147483647 : Int) by omega)
            have hF158 := Fr_a (z := many) (k := 18) (n := (n).toNat) hF11 (by decide)
            obtain ⟨A156, eA156⟩ : ∃ q, q = uA A3 18 (n).toNat (many) := ⟨_, rfl⟩
            rw [← eA156]
            rw [← eA156] at hW157 hF158
            have q159 : A156 18 (n).toNat = many := by rw [eA156]; exact uA_eq
            have hP160 : Pf zz A A156 := eA156 ▸ Pf_a hP12 (z := n) (by omega) (by omega)
            have hX161 : Px (n) (nd) A A156 := eA156 ▸ Px_a hX13 (z := n) (by omega) (by omega)
            have hS162 : Fx sr (sy) A A156 := eA156 ▸ Fx_n hS14 rfl
            have hV163 : Fx [14] (vi) A A156 := eA156 ▸ Fx_n hV15 rfl
            have sf164 : ND A156 (n) (kk) (aa) (many) (cc) (de) (Ax 21 (n).toNat) (xx) := ND_b eA156 sf16
            have sf165 : CL 0 A156 (sy1) pb (k) (Vs) (n) (last) (many) (n + 1) (nd1) (sy) (sy1) := CL_ag (by omega) (by omega) (Sg_ne eA156 rfl) (Qg_ne eA156 rfl) (Ag_st eA156 (by omega) (by omega)) ((congrFun ((congrFun eA156 21).trans (uA_ne (by decide))) _)) sf17
            have ec166 : ecn A156 (G2 31) = ec1 := (ecn_e ((congrFun eA156 15).trans (uA_ne (by decide)))).trans ec18
            refine jx_rt (v := none) rfl rfl rfl rfl rfl rfl ?_
            exact ⟨_, _, ln1, at1, fk2_5, nd1, sy1, na1, vi1, lf1, many, Ax 21 (n).toNat, ec1, rfl, rfl, hW157, hF158, hP160, hX161, hS162, hV163, ((hF7.1 9 rfl).trans (ex_ln1)), ((hF7.1 10 rfl).trans (ex_at1)), (e9), ((hF7.1 31 rfl).trans (ex_nd1)), ((hF7.1 19 rfl).trans (ex_sy1)), ((hF7.1 28 rfl).trans (ex_na1)), ((hF7.1 29 rfl).trans (ex_vi1)), (congrFun (((congrFun eA156 3).trans (uA_ne (by decide))).trans (hF7.2 3 rfl)) _).trans (ex_lf1), (q159), (congrFun (((congrFun eA156 21).trans (uA_ne (by decide))).trans (hF7.2 21 rfl)) _), ec166, by omega, by omega, by omega, by omega, by omega, by omega, by omega, by first | exact Or.inl (⟨by omega, by omega⟩)⟩
          · have _q := h155
            exact absurd h155 (by omega)
        · have _q : True := trivial
          exfalso
          omega
      · have _q := h149
        exact absurd h149 (by omega)
    · have _q : True := trivial
      refine jx_if_eq (pc' := 14) (tg := 98) rfl rfl rfl (by decide) (by decide) (fun h167 => ?_) (fun h167 => ?_)
      · have _q := h167
        refine jx_ld (pc' := 99) (l' := L) (st' := [.ref 66]) rfl (jl_aloadn gL_0) ?_
        refine jx_vr (pc' := 102) (as := []) (st := []) rfl rfl rfl rfl ⟨rfl, rfl, Nat.le_of_ble_eq_true rfl⟩ rfl rfl (c_bad (dd := d) (hd := by omega) (hW := hW6)  (fk := fk2_5) (e_fk := show G2 16 = fk2_5 from (e9))    ) (fun o V' hq => ?_)
        obtain ⟨r168, rfl, rfl, b169, q170⟩ := hq
        refine .inr ⟨_, rfl, ?_⟩
        rcases q170 with ⟨rfl, a171⟩ | ⟨rfl, a172⟩
        · have _q : True := trivial
          exfalso
          omega
        · have _q : True := trivial
          refine jx_if_ne (pc' := 105) (tg := 119) rfl rfl rfl (by decide) (by decide) (fun h173 => ?_) (fun h173 => ?_)
          · have _q := h173
            exact absurd h173 (by omega)
          · have _q := h173
            refine jx_ld (pc' := 107) (l' := L) (st' := [.int (i32 (many))]) rfl (jl_iload gL_6) ?_
            refine jx_ld (pc' := 108) (l' := L) (st' := [.int (i32 (least)), .int (i32 (many))]) rfl (jl_iloadn gL_3) ?_
            refine jx_icmp_ge (pc' := 111) (tg := 119) rfl rfl rfl (Int.le_trans (by decide : (-2147483648 : Int) ≤ -2147483648) rx_many.1) (Int.le_trans rx_many.2 (by decide : (2147483647 : Int) ≤ 2147483647)) (Int.le_trans (by decide : (-2147483648 : Int) ≤ -2147483648) h_least.1) (Int.le_trans h_least.2 (by decide : (2147483647 : Int) ≤ 2147483647)) (fun h174 => ?_) (fun h174 => ?_)
            · have _q := h174
              refine jx_ld (pc' := 120) (l' := L) (st' := [.ref 66]) rfl (jl_aloadn gL_0) ?_
              refine jr_get (pc' := 123) (i := 35) (v := .ref 85) rfl rfl (by decide) rfl rfl ?_
              refine jx_ld (pc' := 124) (l' := L) (st' := [.int (i32 (n)), .ref 85]) rfl (jl_iloadn gL_1) ?_
              refine jx_ld (pc' := 126) (l' := L) (st' := [.int (i32 (many)), .int (i32 (n)), .ref 85]) rfl (jl_iload gL_6) ?_
              refine jr_st (pc' := 127) (i := 18) (m := 7000) (z := n) (y := many) rfl (by decide) rfl (by decide) (by omega) (by omega) rfl ?_
              have hW176 : Wk G2 (uA A3 18 (n).toNat (many)) := Wk_a hW6 (show (-2147483648 : Int) ≤ many by omega) (show many ≤ (2147483647 : Int) by omega)
              have hF177 := Fr_a (z := many) (k := 18) (n := (n).toNat) hF11 (by decide)
              obtain ⟨A175, eA175⟩ : ∃ q, q = uA A3 18 (n).toNat (many) := ⟨_, rfl⟩
              rw [← eA175]
              rw [← eA175] at hW176 hF177
              have q178 : A175 18 (n).toNat = many := by rw [eA175]; exact uA_eq
              have hP179 : Pf zz A A175 := eA175 ▸ Pf_a hP12 (z := n) (by omega) (by omega)
              have hX180 : Px (n) (nd) A A175 := eA175 ▸ Px_a hX13 (z := n) (by omega) (by omega)
              have hS181 : Fx sr (sy) A A175 := eA175 ▸ Fx_n hS14 rfl
              have hV182 : Fx [14] (vi) A A175 := eA175 ▸ Fx_n hV15 rfl
              have sf183 : ND A175 (n) (kk) (aa) (many) (cc) (de) (Ax 21 (n).toNat) (xx) := ND_b eA175 sf16
              have sf184 : CL 0 A175 (sy1) pb (k) (Vs) (n) (last) (many) (n + 1) (nd1) (sy) (sy1) := CL_ag (by omega) (by omega) (Sg_ne eA175 rfl) (Qg_ne eA175 rfl) (Ag_st eA175 (by omega) (by omega)) ((congrFun ((congrFun eA175 21).trans (uA_ne (by decide))) _)) sf17
              have ec185 : ecn A175 (G2 31) = ec1 := (ecn_e ((congrFun eA175 15).trans (uA_ne (by decide)))).trans ec18
              refine jx_rt (v := none) rfl rfl rfl rfl rfl rfl ?_
              exact ⟨_, _, ln1, at1, fk2_5, nd1, sy1, na1, vi1, lf1, many, Ax 21 (n).toNat, ec1, rfl, rfl, hW176, hF177, hP179, hX180, hS181, hV182, ((hF7.1 9 rfl).trans (ex_ln1)), ((hF7.1 10 rfl).trans (ex_at1)), (e9), ((hF7.1 31 rfl).trans (ex_nd1)), ((hF7.1 19 rfl).trans (ex_sy1)), ((hF7.1 28 rfl).trans (ex_na1)), ((hF7.1 29 rfl).trans (ex_vi1)), (congrFun (((congrFun eA175 3).trans (uA_ne (by decide))).trans (hF7.2 3 rfl)) _).trans (ex_lf1), (q178), (congrFun (((congrFun eA175 21).trans (uA_ne (by decide))).trans (hF7.2 21 rfl)) _), ec185, by omega, by omega, by omega, by omega, by omega, by omega, by omega, by first | exact Or.inr ((⟨by omega, by omega, by omega, by omega, by omega, sf183, (RL_eq (RL_cl sf184) (by omega) (by omega) (by omega) (by omega) (by omega)), by omega⟩))⟩
            · have _q := h174
              refine jx_ld (pc' := 112) (l' := L) (st' := [.ref 66]) rfl (jl_aloadn gL_0) ?_
              refine jx_ld (pc' := 113) (l' := L) (st' := [.int (i32 (lv)), .ref 66]) rfl (jl_iloadn gL_2) ?_
              refine jx_ar (pc' := 114) (st' := [.int (i32 (1)), .int (i32 (lv)), .ref 66]) rfl rfl rfl rfl ?_
              refine jx_add (pc' := 115) rfl rfl ?_
              refine jx_vr (pc' := 118) (as := [.int (i32 ((lv + 1)))]) (st := []) rfl rfl rfl rfl ⟨rfl, rfl, Nat.le_of_ble_eq_true rfl⟩ rfl rfl (c_needLevel (dd := d) (hd := by omega) (hW := hW6) (lv := (lv + 1)) (ln := ln1) (e_ln := show G2 9 = ln1 from ((hF7.1 9 rfl).trans (ex_ln1))) (li := li) (e_li := show G2 3 = li from ((hF7.1 3 rfl).trans ((hFx.1 3 rfl).trans (e_li)))) (fk := fk2_5) (e_fk := show G2 16 = fk2_5 from (e9)) (ll := A 5 (ln1).toNat) (e_ll := show A3 5 (ln1).toNat = A 5 (ln1).toNat from (congrFun ((hF7.2 5 rfl).trans (hFx.2 5 rfl)) _))  (h_lv := ⟨(by omega), (by omega)⟩)  ) (fun o V' hq => ?_)
              obtain ⟨G186, A187, r188, fk2_189, rfl, rfl, hW190, hF191, b192, e193, q194⟩ := hq
              have hF195 := Fr_tr hF11 hF191 (Fr_sub (by decide)) (Fr_sub (by decide))
              have hP196 := Pf_f hP12 hF191 (by decide)
              have hX197 := Px_f hX13 hF191 (by decide)
              have hS198 := Fx_f hS14 hF191 (by decide)
              have hV199 := Fx_f hV15 hF191 (by decide)
              have sf200 : ND A187 (n) (kk) (aa) (bb) (cc) (de) (Ax 21 (n).toNat) (xx) := ND_ag (by omega) (Ag_fr hF191 (by decide)) sf16
              have sf201 : CL 0 A187 (sy1) pb (k) (Vs) (n) (last) (many) (n + 1) (nd1) (sy) (sy1) := CL_ag (by omega) (by omega) (Sg_fr hF191 (by decide)) (Qg_fr hF191 (by decide)) (Ag_fr hF191 (by decide)) (congrFun (hF191.2 21 rfl) _) sf17
              have ec202 : ecn A187 (G186 31) = ec1 := (ecn_f (hF191.2 15 rfl) (hF191.1 31 rfl)).trans ec18
              have bfk2_189 : (0 : Int) ≤ fk2_189 ∧ fk2_189 ≤ 6 := e193 ▸ hW190.1 16
              refine .inr ⟨_, rfl, ?_⟩
              rcases q194 with ⟨rfl, a203, a204, a205, a206⟩ | ⟨rfl, a207⟩
              · have _q : True := trivial
                have b208 : (0 : Int) ≤ A 4 (ln1).toNat ∧ A 4 (ln1).toNat ≤ 3000 := hW.2 4 _
                have lt209 : lf1 < A 4 (ln1).toNat := LT_at (LT_ext (((hF191.1 3 rfl).trans ((hF7.1 3 rfl).trans (hFx.1 3 rfl)))) (((hF191.2 3 rfl).trans ((hF7.2 3 rfl).trans (hFx.2 3 rfl)))) (((hF191.2 4 rfl).trans ((hF7.2 4 rfl).trans (hFx.2 4 rfl)))) i_LT) (show G186 3 = li from ((hF191.1 3 rfl).trans ((hF7.1 3 rfl).trans ((hFx.1 3 rfl).trans (e_li))))) (show A187 3 (ln1).toNat = lf1 from (congrFun ((hF191.2 3 rfl).trans (hF7.2 3 rfl)) _).trans (ex_lf1)) (show A187 4 (ln1).toNat = A 4 (ln1).toNat from (congrFun ((hF191.2 4 rfl).trans ((hF7.2 4 rfl).trans (hFx.2 4 rfl))) _)) (by omega) (by omega)
                refine jx_ar (pc' := 119) (st' := []) rfl rfl rfl rfl ?_
                refine jx_ld (pc' := 120) (l' := L) (st' := [.ref 66]) rfl (jl_aloadn gL_0) ?_
                refine jr_get (pc' := 123) (i := 35) (v := .ref 85) rfl rfl (by decide) rfl rfl ?_
                refine jx_ld (pc' := 124) (l' := L) (st' := [.int (i32 (n)), .ref 85]) rfl (jl_iloadn gL_1) ?_
                refine jx_ld (pc' := 126) (l' := L) (st' := [.int (i32 (many)), .int (i32 (n)), .ref 85]) rfl (jl_iload gL_6) ?_
                refine jr_st (pc' := 127) (i := 18) (m := 7000) (z := n) (y := many) rfl (by decide) rfl (by decide) (by omega) (by omega) rfl ?_
                have hW211 : Wk G186 (uA A187 18 (n).toNat (many)) := Wk_a hW190 (show (-2147483648 : Int) ≤ many by omega) (show many ≤ (2147483647 : Int) by omega)
                have hF212 := Fr_a (z := many) (k := 18) (n := (n).toNat) hF195 (by decide)
                obtain ⟨A210, eA210⟩ : ∃ q, q = uA A187 18 (n).toNat (many) := ⟨_, rfl⟩
                rw [← eA210]
                rw [← eA210] at hW211 hF212
                have q213 : A210 18 (n).toNat = many := by rw [eA210]; exact uA_eq
                have hP214 : Pf zz A A210 := eA210 ▸ Pf_a hP196 (z := n) (by omega) (by omega)
                have hX215 : Px (n) (nd) A A210 := eA210 ▸ Px_a hX197 (z := n) (by omega) (by omega)
                have hS216 : Fx sr (sy) A A210 := eA210 ▸ Fx_n hS198 rfl
                have hV217 : Fx [14] (vi) A A210 := eA210 ▸ Fx_n hV199 rfl
                have sf218 : ND A210 (n) (kk) (aa) (many) (cc) (de) (Ax 21 (n).toNat) (xx) := ND_b eA210 sf200
                have sf219 : CL 0 A210 (sy1) pb (k) (Vs) (n) (last) (many) (n + 1) (nd1) (sy) (sy1) := CL_ag (by omega) (by omega) (Sg_ne eA210 rfl) (Qg_ne eA210 rfl) (Ag_st eA210 (by omega) (by omega)) ((congrFun ((congrFun eA210 21).trans (uA_ne (by decide))) _)) sf201
                have ec220 : ecn A210 (G186 31) = ec1 := (ecn_e ((congrFun eA210 15).trans (uA_ne (by decide)))).trans ec202
                refine jx_rt (v := none) rfl rfl rfl rfl rfl rfl ?_
                exact ⟨_, _, ln1, at1, fk2_189, nd1, sy1, na1, vi1, lf1, many, Ax 21 (n).toNat, ec1, rfl, rfl, hW211, hF212, hP214, hX215, hS216, hV217, ((hF191.1 9 rfl).trans ((hF7.1 9 rfl).trans (ex_ln1))), ((hF191.1 10 rfl).trans ((hF7.1 10 rfl).trans (ex_at1))), (e193), ((hF191.1 31 rfl).trans ((hF7.1 31 rfl).trans (ex_nd1))), ((hF191.1 19 rfl).trans ((hF7.1 19 rfl).trans (ex_sy1))), ((hF191.1 28 rfl).trans ((hF7.1 28 rfl).trans (ex_na1))), ((hF191.1 29 rfl).trans ((hF7.1 29 rfl).trans (ex_vi1))), (congrFun (((congrFun eA210 3).trans (uA_ne (by decide))).trans ((hF191.2 3 rfl).trans (hF7.2 3 rfl))) _).trans (ex_lf1), (q213), (congrFun (((congrFun eA210 21).trans (uA_ne (by decide))).trans ((hF191.2 21 rfl).trans (hF7.2 21 rfl))) _), ec220, by omega, by omega, by omega, by omega, by omega, by omega, by omega, by first | exact Or.inr ((⟨by omega, by omega, by omega, by omega, by omega, sf218, (RL_eq (RL_cl sf219) (by omega) (by omega) (by omega) (by omega) (by omega)), by omega⟩))⟩
              · have _q : True := trivial
                refine jx_ar (pc' := 119) (st' := []) rfl rfl rfl rfl ?_
                refine jx_ld (pc' := 120) (l' := L) (st' := [.ref 66]) rfl (jl_aloadn gL_0) ?_
                refine jr_get (pc' := 123) (i := 35) (v := .ref 85) rfl rfl (by decide) rfl rfl ?_
                refine jx_ld (pc' := 124) (l' := L) (st' := [.int (i32 (n)), .ref 85]) rfl (jl_iloadn gL_1) ?_
                refine jx_ld (pc' := 126) (l' := L) (st' := [.int (i32 (many)), .int (i32 (n)), .ref 85]) rfl (jl_iload gL_6) ?_
                refine jr_st (pc' := 127) (i := 18) (m := 7000) (z := n) (y := many) rfl (by decide) rfl (by decide) (by omega) (by omega) rfl ?_
                have hW222 : Wk G186 (uA A187 18 (n).toNat (many)) := Wk_a hW190 (show (-2147483648 : Int) ≤ many by omega) (show many ≤ (2147483647 : Int) by omega)
                have hF223 := Fr_a (z := many) (k := 18) (n := (n).toNat) hF195 (by decide)
                obtain ⟨A221, eA221⟩ : ∃ q, q = uA A187 18 (n).toNat (many) := ⟨_, rfl⟩
                rw [← eA221]
                rw [← eA221] at hW222 hF223
                have q224 : A221 18 (n).toNat = many := by rw [eA221]; exact uA_eq
                have hP225 : Pf zz A A221 := eA221 ▸ Pf_a hP196 (z := n) (by omega) (by omega)
                have hX226 : Px (n) (nd) A A221 := eA221 ▸ Px_a hX197 (z := n) (by omega) (by omega)
                have hS227 : Fx sr (sy) A A221 := eA221 ▸ Fx_n hS198 rfl
                have hV228 : Fx [14] (vi) A A221 := eA221 ▸ Fx_n hV199 rfl
                have sf229 : ND A221 (n) (kk) (aa) (many) (cc) (de) (Ax 21 (n).toNat) (xx) := ND_b eA221 sf200
                have sf230 : CL 0 A221 (sy1) pb (k) (Vs) (n) (last) (many) (n + 1) (nd1) (sy) (sy1) := CL_ag (by omega) (by omega) (Sg_ne eA221 rfl) (Qg_ne eA221 rfl) (Ag_st eA221 (by omega) (by omega)) ((congrFun ((congrFun eA221 21).trans (uA_ne (by decide))) _)) sf201
                have ec231 : ecn A221 (G186 31) = ec1 := (ecn_e ((congrFun eA221 15).trans (uA_ne (by decide)))).trans ec202
                refine jx_rt (v := none) rfl rfl rfl rfl rfl rfl ?_
                exact ⟨_, _, ln1, at1, fk2_189, nd1, sy1, na1, vi1, lf1, many, Ax 21 (n).toNat, ec1, rfl, rfl, hW222, hF223, hP225, hX226, hS227, hV228, ((hF191.1 9 rfl).trans ((hF7.1 9 rfl).trans (ex_ln1))), ((hF191.1 10 rfl).trans ((hF7.1 10 rfl).trans (ex_at1))), (e193), ((hF191.1 31 rfl).trans ((hF7.1 31 rfl).trans (ex_nd1))), ((hF191.1 19 rfl).trans ((hF7.1 19 rfl).trans (ex_sy1))), ((hF191.1 28 rfl).trans ((hF7.1 28 rfl).trans (ex_na1))), ((hF191.1 29 rfl).trans ((hF7.1 29 rfl).trans (ex_vi1))), (congrFun (((congrFun eA221 3).trans (uA_ne (by decide))).trans ((hF191.2 3 rfl).trans (hF7.2 3 rfl))) _).trans (ex_lf1), (q224), (congrFun (((congrFun eA221 21).trans (uA_ne (by decide))).trans ((hF191.2 21 rfl).trans (hF7.2 21 rfl))) _), ec231, by omega, by omega, by omega, by omega, by omega, by omega, by omega, by first | exact Or.inl (⟨by omega, by omega⟩)⟩
      · have _q := h167
        exact absurd h167 (by omega)
set_option maxRecDepth 20000 in
set_option maxHeartbeats 4000000 in
theorem c_readChildren_w {X : jX} {k : Nat} (hP : RPw X k) {zz : Int} {dd : Nat} {Vs : Nat → Prop} {sb pb : Int} (hvb : VB Vs sb) {c0 c1 : jC} {G : Nat → Int} {A : Nat → Nat → Int} {T : jH} {n lv least mo : Int} {kk aa bb cc de xx : Int} {ln li at0 fk nd sy na vi lf ec : Int} (hd : 8 * k + 81 ≤ dd) (hW : Wk G A) (e_ln : G 9 = ln) (e_li : G 3 = li) (e_at0 : G 10 = at0) (e_fk : G 16 = fk) (e_nd : G 31 = nd) (e_sy : G 19 = sy) (e_na : G 28 = na) (e_vi : G 29 = vi) (e_lf : A 3 (ln).toNat = lf) (e_ec : ecn A (G 31) = ec) (i_LT : LT G A) (i_SV : SV Vs sb G A) (i_PQ : PQ Vs sb pb G A) (h_n : (-2147483648 : Int) ≤ n ∧ n ≤ 2147483647) (h_lv : (-2147483648 : Int) ≤ lv ∧ lv ≤ 2147483647) (h_least : (-2147483648 : Int) ≤ least ∧ least ≤ 2147483647) (h_mo : (-2147483648 : Int) ≤ mo ∧ mo ≤ 2147483647) (p_0 : 0 ≤ n ∧ n ≤ 6998) (p_1 : n < nd) (p_2 : 0 ≤ lv ∧ lv ≤ 15) (p_3 : 17 - lv ≤ (k : Int)) (p_4 : fk = 0) (p_5 : ln ≤ li) (p_6 : at0 < lf ∨ li ≤ ln) (p_7 : nd ≤ 2 * at0 + 32) (p_8 : sy ≤ na + 2) (p_9 : vi ≤ sy) (p_10 : 0 ≤ least ∧ least ≤ 2) (p_11 : 0 ≤ mo) (p_12 : zz ≤ n) (p_13 : nd = n + 1) (p_14 : sb ≤ sy) (p_15 : ND A (n) (kk) (aa) (bb) (cc) (de) (0) (xx)) : wk X dd 296 [.ref 66, .int (i32 n), .int (i32 lv), .int (i32 least), .int (i32 mo)] (rV c0 c1 G A T) (fun o V' => ∃ (G' : Nat → Int) (A' : Nat → Nat → Int) (ln2 : Int) (at2 : Int) (fk2 : Int) (nd2 : Int) (sy2 : Int) (na2 : Int) (vi2 : Int) (lf2 : Int) (mm : Int) (f2 : Int) (ec2 : Int), V' = rV c0 c1 G' A' T ∧ o = .inl none ∧ Wk G' A' ∧ Fr [9, 10, 11, 12, 13, 14, 15, 16, 17, 18, 19, 28, 29, 31] [6, 7, 8, 9, 10, 11, 12, 14, 15, 16, 17, 18, 19, 20, 21, 22, 23, 24, 28] G A G' A' ∧ Pf zz A A' ∧ Px (n) (nd) A A' ∧ Fx sr (sy) A A' ∧ Fx [14] (vi) A A' ∧ G' 9 = ln2 ∧ G' 10 = at2 ∧ G' 16 = fk2 ∧ G' 31 = nd2 ∧ G' 19 = sy2 ∧ G' 28 = na2 ∧ G' 29 = vi2 ∧ A' 3 (ln2).toNat = lf2 ∧ A' 18 (n).toNat = mm ∧ A' 21 (n).toNat = f2 ∧ ecn A' (G' 31) = ec2 ∧ (at0 ≤ at2) ∧ (nd ≤ nd2) ∧ (sy ≤ sy2) ∧ (sy2 ≤ na2 + 2) ∧ (ln ≤ ln2) ∧ (ln2 ≤ li) ∧ (vi2 = vi) ∧ (((1 ≤ fk2) ∧ (nd2 - nd ≤ 2 * at2 - 2 * at0 + 12)) ∨ ((fk2 = 0) ∧ (nd2 - nd ≤ 2 * at2 - 2 * at0) ∧ (at2 < lf2 ∨ li ≤ ln2) ∧ (least ≤ mm) ∧ (mm ≤ mo) ∧ (ND A' (n) (kk) (aa) (mm) (cc) (de) (f2) (xx)) ∧ (RL 0 A' (sy2) pb (k) (Vs) (n) (mm) (n + 1) (nd2) (sy) (sy2)) ∧ (nd2 - nd + 5 * (ec2 - ec) ≤ 2 * at2 - 2 * at0)))) := by
  obtain ⟨d, rfl⟩ : ∃ d, dd = d + 1 := ⟨dd - 1, by omega⟩
  refine wk_of (e := jm296) rfl (Nat.le_of_ble_eq_true rfl) ?_
  show wj X d jm296 (0, [(0, .ref 66), (1, .int (i32 (n))), (2, .int (i32 (lv))), (3, .int (i32 (least))), (4, .int (i32 (mo)))], [], rV c0 c1 G A T) _
  have hF0 : Fr [9, 10, 11, 12, 13, 14, 15, 16, 17, 18, 19, 28, 29, 31] [6, 7, 8, 9, 10, 11, 12, 14, 15, 16, 17, 18, 19, 20, 21, 22, 23, 24, 28] G A G A := Fr_rf
  have hP0 : Pf zz A A := Pf_rf
  have hX0 : Px (n) (nd) A A := Px_rf
  have hS0 : Fx sr (sy) A A := Fx_rf
  have hV0 : Fx [14] (vi) A A := Fx_rf
  have b_ln : (0 : Int) ≤ ln ∧ ln ≤ 3000 := e_ln ▸ hW.1 9
  have b_li : (0 : Int) ≤ li ∧ li ≤ 3000 := e_li ▸ hW.1 3
  have b_at0 : (0 : Int) ≤ at0 ∧ at0 ≤ 3002 := e_at0 ▸ hW.1 10
  have b_fk : (0 : Int) ≤ fk ∧ fk ≤ 6 := e_fk ▸ hW.1 16
  have b_nd : (0 : Int) ≤ nd ∧ nd ≤ 6999 := e_nd ▸ hW.1 31
  have b_sy : (0 : Int) ≤ sy ∧ sy ≤ 202 := e_sy ▸ hW.1 19
  have b_na : (0 : Int) ≤ na ∧ na ≤ 200 := e_na ▸ hW.1 28
  have b_vi : (0 : Int) ≤ vi ∧ vi ≤ 202 := e_vi ▸ hW.1 29
  have b_lf : (0 : Int) ≤ lf ∧ lf ≤ 3000 := e_lf ▸ hW.2 3 _
  refine jx_ar (pc' := 1) (st' := [.int (i32 (0))]) rfl rfl rfl rfl ?_
  refine jx_ld (pc' := 3) (l' := jSto1 [(0, .ref 66), (1, .int (i32 (n))), (2, .int (i32 (lv))), (3, .int (i32 (least))), (4, .int (i32 (mo)))] 5 (.int (i32 (0)))) (st' := []) rfl rfl ?_
  obtain ⟨L232, eL232⟩ : ∃ q, q = jSto1 [(0, .ref 66), (1, .int (i32 (n))), (2, .int (i32 (lv))), (3, .int (i32 (least))), (4, .int (i32 (mo)))] 5 (.int (i32 (0))) := ⟨_, rfl⟩
  rw [← eL232]
  have gL232_0 : jGet L232 0 = some (.ref 66) := eL232 ▸ jg_ne (by decide) (rfl : jGet [(0, .ref 66), (1, .int (i32 (n))), (2, .int (i32 (lv))), (3, .int (i32 (least))), (4, .int (i32 (mo)))] 0 = some (.ref 66)) rfl
  have gL232_1 : jGet L232 1 = some (.int (i32 (n))) := eL232 ▸ jg_ne (by decide) (rfl : jGet [(0, .ref 66), (1, .int (i32 (n))), (2, .int (i32 (lv))), (3, .int (i32 (least))), (4, .int (i32 (mo)))] 1 = some (.int (i32 (n)))) rfl
  have gL232_2 : jGet L232 2 = some (.int (i32 (lv))) := eL232 ▸ jg_ne (by decide) (rfl : jGet [(0, .ref 66), (1, .int (i32 (n))), (2, .int (i32 (lv))), (3, .int (i32 (least))), (4, .int (i32 (mo)))] 2 = some (.int (i32 (lv)))) rfl
  have gL232_3 : jGet L232 3 = some (.int (i32 (least))) := eL232 ▸ jg_ne (by decide) (rfl : jGet [(0, .ref 66), (1, .int (i32 (n))), (2, .int (i32 (lv))), (3, .int (i32 (least))), (4, .int (i32 (mo)))] 3 = some (.int (i32 (least)))) rfl
  have gL232_4 : jGet L232 4 = some (.int (i32 (mo))) := eL232 ▸ jg_ne (by decide) (rfl : jGet [(0, .ref 66), (1, .int (i32 (n))), (2, .int (i32 (lv))), (3, .int (i32 (least))), (4, .int (i32 (mo)))] 4 = some (.int (i32 (mo)))) rfl
  have gL232_5 : jGet L232 5 = some (.int (i32 (0))) := eL232 ▸ jg_eq
  refine jx_ar (pc' := 4) (st' := [.int (i32 (0))]) rfl rfl rfl rfl ?_
  refine jx_ld (pc' := 6) (l' := jSto1 L232 6 (.int (i32 (0)))) (st' := []) rfl rfl ?_
  obtain ⟨L233, eL233⟩ : ∃ q, q = jSto1 L232 6 (.int (i32 (0))) := ⟨_, rfl⟩
  rw [← eL233]
  have gL233_0 : jGet L233 0 = some (.ref 66) := eL233 ▸ jg_ne (by decide) gL232_0 rfl
  have gL233_1 : jGet L233 1 = some (.int (i32 (n))) := eL233 ▸ jg_ne (by decide) gL232_1 rfl
  have gL233_2 : jGet L233 2 = some (.int (i32 (lv))) := eL233 ▸ jg_ne (by decide) gL232_2 rfl
  have gL233_3 : jGet L233 3 = some (.int (i32 (least))) := eL233 ▸ jg_ne (by decide) gL232_3 rfl
  have gL233_4 : jGet L233 4 = some (.int (i32 (mo))) := eL233 ▸ jg_ne (by decide) gL232_4 rfl
  have gL233_5 : jGet L233 5 = some (.int (i32 (0))) := eL233 ▸ jg_ne (by decide) gL232_5 rfl
  have gL233_6 : jGet L233 6 = some (.int (i32 (0))) := eL233 ▸ jg_eq
  exact c_readChildren_w_at_6 (X := X) (k := k) (hP := hP) (zz := zz) (d := d) (Vs := Vs) (sb := sb) (pb := pb) (hvb := hvb) (c0 := c0) (c1 := c1) (G := G) (A := A) (T := T) (n := n) (lv := lv) (least := least) (mo := mo) (kk := kk) (aa := aa) (bb := bb) (cc := cc) (de := de) (xx := xx) (ln := ln) (li := li) (at0 := at0) (fk := fk) (nd := nd) (sy := sy) (na := na) (vi := vi) (lf := lf) (ec := ec) (hd := hd) (hW := hW) (e_ln := e_ln) (e_li := e_li) (e_at0 := e_at0) (e_fk := e_fk) (e_nd := e_nd) (e_sy := e_sy) (e_na := e_na) (e_vi := e_vi) (e_lf := e_lf) (e_ec := e_ec) (i_LT := i_LT) (i_SV := i_SV) (i_PQ := i_PQ) (h_n := h_n) (h_lv := h_lv) (h_least := h_least) (h_mo := h_mo) (p_0 := p_0) (p_1 := p_1) (p_2 := p_2) (p_3 := p_3) (p_4 := p_4) (p_5 := p_5) (p_6 := p_6) (p_7 := p_7) (p_8 := p_8) (p_9 := p_9) (p_10 := p_10) (p_11 := p_11) (p_12 := p_12) (p_13 := p_13) (p_14 := p_14) (p_15 := p_15) _ L233 G A (0) (0) (ln) (at0) (fk) (nd) (sy) (na) (vi) (lf) (ec) rfl gL233_0 gL233_1 gL233_2 gL233_3 gL233_4 gL233_5 gL233_6 hW hF0 hP0 hX0 hS0 hV0 ((e_ln)) ((e_at0)) ((e_fk)) ((e_nd)) ((e_sy)) ((e_na)) ((e_vi)) ((e_lf)) (e_ec) (by omega) (by omega) (by omega) (by omega) (by omega) (by omega) (by omega) (by omega) (by omega) (by omega) (by omega) (by omega) (by omega) (by omega) (by omega) (by omega) (by omega) ((ND_sf p_15)) ((CL_eq (CL_nil (lo := n + 1) (s0 := sy) (ND_f0 p_15)) (by omega) (by omega) (by omega) (by omega) (by omega) (by omega))) (by omega) (by omega)
set_option maxRecDepth 20000 in
set_option maxHeartbeats 4000000 in
theorem c_readIndexed_w {X : jX} {k : Nat} (hP : RPw X k) {zz : Int} {dd : Nat} {Vs : Nat → Prop} {sb pb : Int} (hvb : VB Vs sb) {c0 c1 : jC} {G : Nat → Int} {A : Nat → Nat → Int} {T : jH} {n lv : Int} {kk bb cc de xx : Int} {ln li at0 fk nd sy na vi lf sa ksa ec : Int} (hd : 8 * k + 81 ≤ dd) (hW : Wk G A) (e_ln : G 9 = ln) (e_li : G 3 = li) (e_at0 : G 10 = at0) (e_fk : G 16 = fk) (e_nd : G 31 = nd) (e_sy : G 19 = sy) (e_na : G 28 = na) (e_vi : G 29 = vi) (e_lf : A 3 (ln).toNat = lf) (e_sa : A 17 (n).toNat = sa) (e_ksa : A 7 (sa).toNat = ksa) (e_ec : ecn A (G 31) = ec) (i_LT : LT G A) (i_SV : SV Vs sb G A) (i_PQ : PQ Vs sb pb G A) (h_n : (-2147483648 : Int) ≤ n ∧ n ≤ 2147483647) (h_lv : (-2147483648 : Int) ≤ lv ∧ lv ≤ 2147483647) (p_0 : 0 ≤ n ∧ n ≤ 6998) (p_1 : n < nd) (p_2 : 0 ≤ lv ∧ lv ≤ 15) (p_3 : 17 - lv ≤ (k : Int)) (p_4 : fk = 0) (p_5 : ln ≤ li) (p_6 : at0 < lf ∨ li ≤ ln) (p_7 : nd ≤ 2 * at0 + 32) (p_8 : sy ≤ na + 2) (p_9 : vi ≤ sy) (p_10 : 0 ≤ sa ∧ sa ≤ 201) (p_11 : vi < sy) (p_12 : zz ≤ n) (p_13 : sa = sy - 1) (p_14 : sb ≤ sa) (p_15 : ksa ≤ 13) (p_16 : ND A (n) (kk) (sa) (bb) (cc) (de) (0) (xx)) : wk X dd 298 [.ref 66, .int (i32 n), .int (i32 lv)] (rV c0 c1 G A T) (fun o V' => ∃ (G' : Nat → Int) (A' : Nat → Nat → Int) (ln2 : Int) (at2 : Int) (fk2 : Int) (nd2 : Int) (sy2 : Int) (na2 : Int) (vi2 : Int) (lf2 : Int) (f2 : Int) (ec2 : Int), V' = rV c0 c1 G' A' T ∧ o = .inl (some (.int (i32 (n)))) ∧ Wk G' A' ∧ Fr [9, 10, 11, 12, 13, 14, 15, 16, 17, 18, 19, 28, 29, 31] [6, 7, 8, 9, 10, 11, 12, 14, 15, 16, 17, 18, 19, 20, 21, 22, 23, 24, 28] G A G' A' ∧ Pf zz A A' ∧ Px (n) (nd) A A' ∧ Fx sr (sy) A A' ∧ Fx [14] (vi) A A' ∧ G' 9 = ln2 ∧ G' 10 = at2 ∧ G' 16 = fk2 ∧ G' 31 = nd2 ∧ G' 19 = sy2 ∧ G' 28 = na2 ∧ G' 29 = vi2 ∧ A' 3 (ln2).toNat = lf2 ∧ A' 21 (n).toNat = f2 ∧ ecn A' (G' 31) = ec2 ∧ (at0 ≤ at2) ∧ (nd ≤ nd2) ∧ (sy ≤ sy2) ∧ (sy2 ≤ na2 + 2) ∧ (ln ≤ ln2) ∧ (ln2 ≤ li) ∧ (vi2 = vi) ∧ (((1 ≤ fk2) ∧ (nd2 - nd ≤ 2 * at2 - 2 * at0 + 12)) ∨ ((fk2 = 0) ∧ (nd2 - nd ≤ 2 * at2 - 2 * at0) ∧ (at2 < lf2 ∨ li ≤ ln2) ∧ (ln < ln2) ∧ (ND A' (n) (kk) (sa) (bb) (cc) (de) (f2) (xx)) ∧ (wP A' (sy2) pb (k) (Vu Vs sa) (f2) (nd) (nd2) (sy) (sy2)) ∧ (nd2 - nd + 5 * (ec2 - ec) ≤ 2 * at2 - 2 * at0)))) := by
  obtain ⟨d, rfl⟩ : ∃ d, dd = d + 1 := ⟨dd - 1, by omega⟩
  refine wk_of (e := jm298) rfl (Nat.le_of_ble_eq_true rfl) ?_
  show wj X d jm298 (0, [(0, .ref 66), (1, .int (i32 (n))), (2, .int (i32 (lv)))], [], rV c0 c1 G A T) _
  have hF0 : Fr [9, 10, 11, 12, 13, 14, 15, 16, 17, 18, 19, 28, 29, 31] [6, 7, 8, 9, 10, 11, 12, 14, 15, 16, 17, 18, 19, 20, 21, 22, 23, 24, 28] G A G A := Fr_rf
  have hP0 : Pf zz A A := Pf_rf
  have hX0 : Px (n) (nd) A A := Px_rf
  have hS0 : Fx sr (sy) A A := Fx_rf
  have hV0 : Fx [14] (vi) A A := Fx_rf
  have b_ln : (0 : Int) ≤ ln ∧ ln ≤ 3000 := e_ln ▸ hW.1 9
  have b_li : (0 : Int) ≤ li ∧ li ≤ 3000 := e_li ▸ hW.1 3
  have b_at0 : (0 : Int) ≤ at0 ∧ at0 ≤ 3002 := e_at0 ▸ hW.1 10
  have b_fk : (0 : Int) ≤ fk ∧ fk ≤ 6 := e_fk ▸ hW.1 16
  have b_nd : (0 : Int) ≤ nd ∧ nd ≤ 6999 := e_nd ▸ hW.1 31
  have b_sy : (0 : Int) ≤ sy ∧ sy ≤ 202 := e_sy ▸ hW.1 19
  have b_na : (0 : Int) ≤ na ∧ na ≤ 200 := e_na ▸ hW.1 28
  have b_vi : (0 : Int) ≤ vi ∧ vi ≤ 202 := e_vi ▸ hW.1 29
  have b_lf : (0 : Int) ≤ lf ∧ lf ≤ 3000 := e_lf ▸ hW.2 3 _
  have b_sa : (-2147483648 : Int) ≤ sa ∧ sa ≤ 2147483647 := e_sa ▸ hW.2 17 _
  have b_ksa : (0 : Int) ≤ ksa ∧ ksa ≤ 14 := e_ksa ▸ hW.2 7 _
  refine jx_ld (pc' := 1) (l' := [(0, .ref 66), (1, .int (i32 (n))), (2, .int (i32 (lv)))]) (st' := [.ref 66]) rfl (jl_aloadn rfl) ?_
  refine jx_vr (pc' := 4) (as := []) (st := []) rfl rfl rfl rfl ⟨rfl, rfl, Nat.le_of_ble_eq_true rfl⟩ rfl rfl (c_bad (dd := d) (hd := by omega) (hW := hW)  (fk := fk) (e_fk := show G 16 = fk from (e_fk))    ) (fun o V' hq => ?_)
  obtain ⟨r1, rfl, rfl, b2, q3⟩ := hq
  refine .inr ⟨_, rfl, ?_⟩
  rcases q3 with ⟨rfl, a4⟩ | ⟨rfl, a5⟩
  · have _q : True := trivial
    exfalso
    omega
  · have _q : True := trivial
    refine jx_if_eq (pc' := 7) (tg := 9) rfl rfl rfl (by decide) (by decide) (fun h6 => ?_) (fun h6 => ?_)
    · have _q := h6
      refine jx_ld (pc' := 10) (l' := [(0, .ref 66), (1, .int (i32 (n))), (2, .int (i32 (lv)))]) (st' := [.ref 66]) rfl (jl_aloadn rfl) ?_
      refine jr_get (pc' := 13) (i := 29) (v := .int (i32 (vi))) rfl rfl (by decide) (rFv_eq (by decide) (show G 29 = vi from (e_vi))) rfl ?_
      refine jx_ld (pc' := 14) (l' := jSto1 [(0, .ref 66), (1, .int (i32 (n))), (2, .int (i32 (lv)))] 3 (.int (i32 (vi)))) (st' := []) rfl rfl ?_
      obtain ⟨L7, eL7⟩ : ∃ q, q = jSto1 [(0, .ref 66), (1, .int (i32 (n))), (2, .int (i32 (lv)))] 3 (.int (i32 (vi))) := ⟨_, rfl⟩
      rw [← eL7]
      have gL7_0 : jGet L7 0 = some (.ref 66) := eL7 ▸ jg_ne (by decide) (rfl : jGet [(0, .ref 66), (1, .int (i32 (n))), (2, .int (i32 (lv)))] 0 = some (.ref 66)) rfl
      have gL7_1 : jGet L7 1 = some (.int (i32 (n))) := eL7 ▸ jg_ne (by decide) (rfl : jGet [(0, .ref 66), (1, .int (i32 (n))), (2, .int (i32 (lv)))] 1 = some (.int (i32 (n)))) rfl
      have gL7_2 : jGet L7 2 = some (.int (i32 (lv))) := eL7 ▸ jg_ne (by decide) (rfl : jGet [(0, .ref 66), (1, .int (i32 (n))), (2, .int (i32 (lv)))] 2 = some (.int (i32 (lv)))) rfl
      have gL7_3 : jGet L7 3 = some (.int (i32 (vi))) := eL7 ▸ jg_eq
      refine jx_ld (pc' := 15) (l' := L7) (st' := [.ref 66]) rfl (jl_aloadn gL7_0) ?_
      refine jx_ld (pc' := 16) (l' := L7) (st' := [.ref 66, .ref 66]) rfl (jl_aloadn gL7_0) ?_
      refine jr_get (pc' := 19) (i := 34) (v := .ref 84) rfl rfl (by decide) rfl rfl ?_
      refine jx_ld (pc' := 20) (l' := L7) (st' := [.int (i32 (n)), .ref 84, .ref 66]) rfl (jl_iloadn gL7_1) ?_
      refine jr_ldv (pc' := 21) (i := 17) (m := 7000) (z := n) (y := sa) rfl (by decide) rfl (by decide) (by omega) (by omega) rfl (show A 17 (n).toNat = sa from (e_sa)) ?_
      refine jx_vr (pc' := 24) (as := [.int (i32 (sa))]) (st := []) rfl rfl rfl rfl ⟨rfl, rfl, Nat.le_of_ble_eq_true rfl⟩ rfl rfl (c_show (dd := d) (hd := by omega) (hW := hW) (s := sa) (vi := vi) (e_vi := show G 29 = vi from (e_vi))  (h_s := ⟨(Int.le_trans (by decide : (-2147483648 : Int) ≤ -2147483648) b_sa.1), (Int.le_trans b_sa.2 (by decide : (2147483647 : Int) ≤ 2147483647))⟩)  (p_0 := by omega) (p_1 := by omega)) (fun o V' hq => ?_)
      obtain ⟨G8, A9, vi2_10, sv2_11, rfl, rfl, hW12, hF13, hQ14, e15, e16, p17, p18, -⟩ := hq
      have hF20 := Fr_tr hF0 hF13 (Fr_sub (by decide)) (Fr_sub (by decide))
      have hP21 := Pf_f hP0 hF13 (by decide)
      have hX22 := Px_f hX0 hF13 (by decide)
      have hS23 := Fx_f hS0 hF13 (by decide)
      have hV24 := Fx_tr hV0 hQ14 (by omega)
      have sf25 : ND A9 (n) (kk) (sa) (bb) (cc) (de) (0) (xx) := ND_ag (by omega) (Ag_fr hF13 (by decide)) p_16
      have ec26 : ecn A9 (G8 31) = ec := (ecn_f (hF13.2 15 rfl) (hF13.1 31 rfl)).trans e_ec
      have bvi2_10 : (0 : Int) ≤ vi2_10 ∧ vi2_10 ≤ 202 := e15 ▸ hW12.1 29
      have bsv2_11 : (0 : Int) ≤ sv2_11 ∧ sv2_11 ≤ 201 := e16 ▸ hW12.2 14 _
      refine .inl ⟨rfl, ?_⟩
      refine jx_ld (pc' := 25) (l' := L7) (st' := [.ref 66]) rfl (jl_aloadn gL7_0) ?_
      refine jr_get (pc' := 28) (i := 38) (v := .ref 88) rfl rfl (by decide) rfl rfl ?_
      refine jx_ld (pc' := 29) (l' := L7) (st' := [.int (i32 (n)), .ref 88]) rfl (jl_iloadn gL7_1) ?_
      refine jx_ld (pc' := 30) (l' := L7) (st' := [.ref 66, .int (i32 (n)), .ref 88]) rfl (jl_aloadn gL7_0) ?_
      refine jx_ld (pc' := 31) (l' := L7) (st' := [.int (i32 (lv)), .ref 66, .int (i32 (n)), .ref 88]) rfl (jl_iloadn gL7_2) ?_
      refine jx_ar (pc' := 32) (st' := [.int (i32 (1)), .int (i32 (lv)), .ref 66, .int (i32 (n)), .ref 88]) rfl rfl rfl rfl ?_
      refine jx_add (pc' := 33) rfl rfl ?_
      refine jx_vr (pc' := 36) (as := [.int (i32 ((lv + 1)))]) (st := [.int (i32 (n)), .ref 88]) rfl rfl rfl rfl ⟨rfl, rfl, Nat.le_of_ble_eq_true rfl⟩ rfl rfl (hP (dd := d) (hd := by omega) (hW := hW12) (lv := (lv + 1)) (at0 := at0) (ln := ln) (e_ln := show G8 9 = ln from ((hF13.1 9 rfl).trans (e_ln))) (li := li) (e_li := show G8 3 = li from ((hF13.1 3 rfl).trans (e_li))) (fk := fk) (e_fk := show G8 16 = fk from ((hF13.1 16 rfl).trans (e_fk))) (nd := nd) (e_nd := show G8 31 = nd from ((hF13.1 31 rfl).trans (e_nd))) (sy := sy) (e_sy := show G8 19 = sy from ((hF13.1 19 rfl).trans (e_sy))) (na := na) (e_na := show G8 28 = na from ((hF13.1 28 rfl).trans (e_na))) (vi := vi2_10) (e_vi := show G8 29 = vi2_10 from (e15)) (lf := lf) (e_lf := show A9 3 (ln).toNat = lf from (congrFun (hF13.2 3 rfl) _).trans (e_lf)) (ac := at0) (e_ac := show G8 10 = at0 from ((hF13.1 10 rfl).trans (e_at0))) (ec := ec) (e_ec := show ecn A9 (G8 31) = ec from ec26) (i_LT := (LT_ext ((hF13.1 3 rfl)) ((hF13.2 3 rfl)) ((hF13.2 4 rfl)) i_LT)) (i_SV := (SV_show (w := sy) i_SV e_vi (show G8 29 = vi2_10 from (e15)) (by omega) hV24 ((show A9 14 (vi).toNat = sv2_11 from (e16)).trans (by omega : sv2_11 = sa)) (by omega) (by omega) (by omega) (by omega))) (i_PQ := (PQ_show (w := sy) (kd := ksa) i_PQ (Fx_su hS23 (by omega)) (by omega) (hF20.2 29 rfl) (hF20.2 30 rfl) (by omega) (show A9 7 (sa).toNat = ksa from (congrFun (hF13.2 7 rfl) _).trans (e_ksa)) (by omega) hvb)) (hvb := (VB_u (s := sa) (w := sy) hvb (by omega) (by omega))) (h_lv := ⟨(by omega), (by omega)⟩)  (p_0 := by omega) (p_1 := by omega) (p_2 := by omega) (p_3 := by omega) (p_4 := by omega) (p_5 := by omega) (p_6 := by omega) (p_7 := by omega) (p_8 := by omega) (p_9 := by omega) (p_10 := by omega)) (fun o V' hq => ?_)
      obtain ⟨G27, A28, r29, ln2_30, at2_31, fk2_32, nd2_33, sy2_34, na2_35, vi2_36, lf2_37, ec2_38, rfl, rfl, hW39, hF40, hQ41, hQ42, hQ43, b44, e45, e46, e47, e48, e49, e50, e51, e52, e53, p54, p55, p56, p57, p58, p59, p60, p61, p62, q63⟩ := hq
      have hF64 := Fr_tr hF20 hF40 (Fr_sub (by decide)) (Fr_sub (by decide))
      have hP65 := Pf_tr hP21 hQ41 (by omega)
      have hX66 := Px_p hX22 hQ41 (by omega)
      have hS67 := Fx_tr hS23 hQ42 (by omega)
      have hV68 := Fx_tr hV24 hQ43 (by omega)
      have sf69 : ND A28 (n) (kk) (sa) (bb) (cc) (de) (0) (xx) := ND_ag (by omega) (Ag_pf hQ41 (by omega)) sf25
      have bln2_30 : (0 : Int) ≤ ln2_30 ∧ ln2_30 ≤ 3000 := e45 ▸ hW39.1 9
      have bat2_31 : (0 : Int) ≤ at2_31 ∧ at2_31 ≤ 3002 := e46 ▸ hW39.1 10
      have bfk2_32 : (0 : Int) ≤ fk2_32 ∧ fk2_32 ≤ 6 := e47 ▸ hW39.1 16
      have bnd2_33 : (0 : Int) ≤ nd2_33 ∧ nd2_33 ≤ 6999 := e48 ▸ hW39.1 31
      have bsy2_34 : (0 : Int) ≤ sy2_34 ∧ sy2_34 ≤ 202 := e49 ▸ hW39.1 19
      have bna2_35 : (0 : Int) ≤ na2_35 ∧ na2_35 ≤ 200 := e50 ▸ hW39.1 28
      have bvi2_36 : (0 : Int) ≤ vi2_36 ∧ vi2_36 ≤ 202 := e51 ▸ hW39.1 29
      have blf2_37 : (0 : Int) ≤ lf2_37 ∧ lf2_37 ≤ 3000 := e52 ▸ hW39.2 3 _
      refine .inr ⟨_, rfl, ?_⟩
      rcases q63 with ⟨a70, a71⟩ | ⟨a72, a73, a74, a75, a76, a77, a78, a79, a80, a81⟩
      · have _q : True := trivial
        refine jr_st (pc' := 37) (i := 21) (m := 7000) (z := n) (y := r29) rfl (by decide) rfl (by decide) (by omega) (by omega) rfl ?_
        have hW83 : Wk G27 (uA A28 21 (n).toNat (r29)) := Wk_a hW39 (show (-2147483648 : Int) ≤ r29 by omega) (show r29 ≤ (2147483647 : Int) by omega)
        have hF84 := Fr_a (z := r29) (k := 21) (n := (n).toNat) hF64 (by decide)
        obtain ⟨A82, eA82⟩ : ∃ q, q = uA A28 21 (n).toNat (r29) := ⟨_, rfl⟩
        rw [← eA82]
        rw [← eA82] at hW83 hF84
        have q85 : A82 21 (n).toNat = r29 := by rw [eA82]; exact uA_eq
        have hP86 : Pf zz A A82 := eA82 ▸ Pf_a hP65 (z := n) (by omega) (by omega)
        have hX87 : Px (n) (nd) A A82 := eA82 ▸ Px_a hX66 (z := n) (by omega) (by omega)
        have hS88 : Fx sr (sy) A A82 := eA82 ▸ Fx_n hS67 rfl
        have hV89 : Fx [14] (vi) A A82 := eA82 ▸ Fx_n hV68 rfl
        have sf90 : ND A82 (n) (kk) (sa) (bb) (cc) (de) (r29) (xx) := ND_f eA82 sf69
        have ec91 : ecn A82 (G27 31) = ec2_38 := (ecn_e ((congrFun eA82 15).trans (uA_ne (by decide)))).trans e53
        refine jx_ld (pc' := 38) (l' := L7) (st' := [.ref 66]) rfl (jl_aloadn gL7_0) ?_
        refine jx_ld (pc' := 39) (l' := L7) (st' := [.int (i32 (vi)), .ref 66]) rfl (jl_iloadn gL7_3) ?_
        refine jr_put (pc' := 42) (i := 29) (z := vi) rfl rfl (by decide) rfl rfl rfl rfl rfl rfl ?_
        have hW92 : Wk (uG G27 29 (vi)) A82 := Wk_g hW83 (show (0 : Int) ≤ vi by omega) (show vi ≤ (202 : Int) by omega)
        have hF93 := Fr_g (z := vi) (i := 29) hF84 (by decide)
        have ec94 : ecn A82 ((uG G27 29 (vi)) 31) = ec2_38 := ec91
        refine jx_ld (pc' := 43) (l' := L7) (st' := [.int (i32 (n))]) rfl (jl_iloadn gL7_1) ?_
        refine jx_rt (v := some (.int (i32 (n)))) rfl rfl rfl rfl rfl rfl ?_
        exact ⟨_, _, ln2_30, at2_31, fk2_32, nd2_33, sy2_34, na2_35, vi, lf2_37, r29, ec2_38, rfl, rfl, hW92, hF93, hP86, hX87, hS88, hV89, (e45), (e46), (e47), (e48), (e49), (e50), rfl, (congrFun ((congrFun eA82 3).trans (uA_ne (by decide))) _).trans (e52), (q85), ec94, by omega, by omega, by omega, by omega, by omega, by omega, by omega, by first | exact Or.inl (⟨by omega, by omega⟩)⟩
      · have _q : True := trivial
        refine jr_st (pc' := 37) (i := 21) (m := 7000) (z := n) (y := r29) rfl (by decide) rfl (by decide) (by omega) (by omega) rfl ?_
        have hW96 : Wk G27 (uA A28 21 (n).toNat (r29)) := Wk_a hW39 (show (-2147483648 : Int) ≤ r29 by omega) (show r29 ≤ (2147483647 : Int) by omega)
        have hF97 := Fr_a (z := r29) (k := 21) (n := (n).toNat) hF64 (by decide)
        obtain ⟨A95, eA95⟩ : ∃ q, q = uA A28 21 (n).toNat (r29) := ⟨_, rfl⟩
        rw [← eA95]
        rw [← eA95] at hW96 hF97
        have q98 : A95 21 (n).toNat = r29 := by rw [eA95]; exact uA_eq
        have hP99 : Pf zz A A95 := eA95 ▸ Pf_a hP65 (z := n) (by omega) (by omega)
        have hX100 : Px (n) (nd) A A95 := eA95 ▸ Px_a hX66 (z := n) (by omega) (by omega)
        have hS101 : Fx sr (sy) A A95 := eA95 ▸ Fx_n hS67 rfl
        have hV102 : Fx [14] (vi) A A95 := eA95 ▸ Fx_n hV68 rfl
        have sf103 : ND A95 (n) (kk) (sa) (bb) (cc) (de) (r29) (xx) := ND_f eA95 sf69
        have sf104 : wP A95 (sy2_34) pb (k) (Vu Vs sa) (r29) (nd) (nd2_33) (sy) (sy2_34) := wP_ag (Sg_ne eA95 rfl) (Qg_ne eA95 rfl) (by omega) (by omega) (Ax_ag (Ag_st eA95 (by omega) (by omega))) a78
        have sf105 : NX A95 (r29) := NX_r eA95 (by decide) a79
        have ec106 : ecn A95 (G27 31) = ec2_38 := (ecn_e ((congrFun eA95 15).trans (uA_ne (by decide)))).trans e53
        refine jx_ld (pc' := 38) (l' := L7) (st' := [.ref 66]) rfl (jl_aloadn gL7_0) ?_
        refine jx_ld (pc' := 39) (l' := L7) (st' := [.int (i32 (vi)), .ref 66]) rfl (jl_iloadn gL7_3) ?_
        refine jr_put (pc' := 42) (i := 29) (z := vi) rfl rfl (by decide) rfl rfl rfl rfl rfl rfl ?_
        have hW107 : Wk (uG G27 29 (vi)) A95 := Wk_g hW96 (show (0 : Int) ≤ vi by omega) (show vi ≤ (202 : Int) by omega)
        have hF108 := Fr_g (z := vi) (i := 29) hF97 (by decide)
        have ec109 : ecn A95 ((uG G27 29 (vi)) 31) = ec2_38 := ec106
        refine jx_ld (pc' := 43) (l' := L7) (st' := [.int (i32 (n))]) rfl (jl_iloadn gL7_1) ?_
        refine jx_rt (v := some (.int (i32 (n)))) rfl rfl rfl rfl rfl rfl ?_
        exact ⟨_, _, ln2_30, at2_31, fk2_32, nd2_33, sy2_34, na2_35, vi, lf2_37, r29, ec2_38, rfl, rfl, hW107, hF108, hP99, hX100, hS101, hV102, (e45), (e46), (e47), (e48), (e49), (e50), rfl, (congrFun ((congrFun eA95 3).trans (uA_ne (by decide))) _).trans (e52), (q98), ec109, by omega, by omega, by omega, by omega, by omega, by omega, by omega, by first | exact Or.inr ((⟨by omega, by omega, by omega, by omega, sf103, sf104, by omega⟩))⟩
    · have _q := h6
      exact absurd h6 (by omega)
