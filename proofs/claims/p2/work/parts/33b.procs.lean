theorem LT_at {G : Nat → Int} {A : Nat → Nat → Int} {z li lf le : Int} (h : LT G A) (h1 : G 3 = li) (h2 : A 3 z.toNat = lf) (h3 : A 4 z.toNat = le) (h0 : 0 ≤ z) (hz : z < li) : lf < le := by
  have := (h z.toNat (by omega)).1
  omega
theorem LT_nx {G : Nat → Int} {A : Nat → Nat → Int} {z y li le lf : Int} (h : LT G A) (h1 : G 3 = li) (h2 : A 4 z.toNat = le) (h3 : A 3 y.toNat = lf) (hy : y = z + 1) (h0 : 0 ≤ z) (hz : y < li) : le < lf := by
  have := (h z.toNat (by omega)).2 (by omega)
  rw [show z.toNat + 1 = y.toNat by omega] at this
  omega
def RP (X : jX) (k : Nat) : Prop := ∀ ⦃dd : Nat⦄ ⦃Vs : Nat → Prop⦄ ⦃sb pb : Int⦄ (hvb : VB Vs sb) ⦃c0 c1 : jC⦄ ⦃G : Nat → Int⦄ ⦃A : Nat → Nat → Int⦄ ⦃T : jH⦄ ⦃lv : Int⦄ ⦃at0 : Int⦄ ⦃ln li fk nd sy na vi lf ac : Int⦄ (hd : 8 * k + 80 ≤ dd) (hW : Wk G A) (e_ln : G 9 = ln) (e_li : G 3 = li) (e_fk : G 16 = fk) (e_nd : G 31 = nd) (e_sy : G 19 = sy) (e_na : G 28 = na) (e_vi : G 29 = vi) (e_lf : A 3 (ln).toNat = lf) (e_ac : G 10 = ac) (i_LT : LT G A) (i_SV : SV Vs sb G A) (i_PQ : PQ Vs sb pb G A) (h_lv : (-2147483648 : Int) ≤ lv ∧ lv ≤ 2147483647) (p_0 : 0 ≤ lv ∧ lv ≤ 40) (p_1 : 18 - lv ≤ (k : Int)) (p_2 : fk = 0) (p_3 : ln ≤ li) (p_4 : at0 < lf ∨ li ≤ ln) (p_5 : nd ≤ 2 * at0 + 32) (p_6 : sy ≤ na + 2) (p_7 : vi ≤ sy) (p_8 : at0 ≤ ac) (p_9 : -1 ≤ at0) (p_10 : sb ≤ sy), wk X dd 292 [.ref 66, .int (i32 lv)] (rV c0 c1 G A T) (fun o V' => ∃ (G' : Nat → Int) (A' : Nat → Nat → Int) (r : Int) (ln2 : Int) (at2 : Int) (fk2 : Int) (nd2 : Int) (sy2 : Int) (na2 : Int) (vi2 : Int) (lf2 : Int), V' = rV c0 c1 G' A' T ∧ o = .inl (some (.int (i32 r))) ∧ Wk G' A' ∧ Fr [9, 10, 11, 12, 13, 14, 15, 16, 17, 18, 19, 28, 29, 31] [6, 7, 8, 9, 10, 11, 12, 14, 15, 16, 17, 18, 19, 20, 21, 22, 23, 24, 28] G A G' A' ∧ Pf nd A A' ∧ Fx sr (sy) A A' ∧ Fx [14] (vi) A A' ∧ ((-2147483648 : Int) ≤ r ∧ r ≤ 2147483647) ∧ G' 9 = ln2 ∧ G' 10 = at2 ∧ G' 16 = fk2 ∧ G' 31 = nd2 ∧ G' 19 = sy2 ∧ G' 28 = na2 ∧ G' 29 = vi2 ∧ A' 3 (ln2).toNat = lf2 ∧ (at0 ≤ at2) ∧ (nd ≤ nd2) ∧ (sy ≤ sy2) ∧ (sy2 ≤ na2 + 2) ∧ (vi2 = vi) ∧ (0 ≤ r) ∧ (r ≤ 6999) ∧ (ln ≤ ln2) ∧ (ln2 ≤ li) ∧ (((1 ≤ fk2) ∧ (nd2 - nd ≤ 2 * at2 - 2 * at0 + 12)) ∨ ((fk2 = 0) ∧ (ln < ln2) ∧ (nd2 - nd ≤ 2 * at2 - 2 * at0) ∧ (at2 < lf2 ∨ li ≤ ln2) ∧ (nd ≤ r) ∧ (r < nd2) ∧ (wP A' (sy2) pb (k) (Vs) (r) (nd) (nd2) (sy) (sy2)) ∧ (NX A' (r)))))
set_option maxRecDepth 20000 in
set_option maxHeartbeats 4000000 in
theorem c_readChildren_at_6 {X : jX} {k : Nat} (hP : RP X k) {zz : Int} {d : Nat} {Vs : Nat → Prop} {sb pb : Int} (hvb : VB Vs sb) {c0 c1 : jC} {G : Nat → Int} {A : Nat → Nat → Int} {T : jH} {n lv least mo : Int} {kk aa bb cc de xx : Int} {ln li at0 fk nd sy na vi lf : Int} (hd : 8 * k + 81 ≤ d + 1) (hW : Wk G A) (e_ln : G 9 = ln) (e_li : G 3 = li) (e_at0 : G 10 = at0) (e_fk : G 16 = fk) (e_nd : G 31 = nd) (e_sy : G 19 = sy) (e_na : G 28 = na) (e_vi : G 29 = vi) (e_lf : A 3 (ln).toNat = lf) (i_LT : LT G A) (i_SV : SV Vs sb G A) (i_PQ : PQ Vs sb pb G A) (h_n : (-2147483648 : Int) ≤ n ∧ n ≤ 2147483647) (h_lv : (-2147483648 : Int) ≤ lv ∧ lv ≤ 2147483647) (h_least : (-2147483648 : Int) ≤ least ∧ least ≤ 2147483647) (h_mo : (-2147483648 : Int) ≤ mo ∧ mo ≤ 2147483647) (p_0 : 0 ≤ n ∧ n ≤ 6998) (p_1 : n < nd) (p_2 : 0 ≤ lv ∧ lv ≤ 15) (p_3 : 17 - lv ≤ (k : Int)) (p_4 : fk = 0) (p_5 : ln ≤ li) (p_6 : at0 < lf ∨ li ≤ ln) (p_7 : nd ≤ 2 * at0 + 32) (p_8 : sy ≤ na + 2) (p_9 : vi ≤ sy) (p_10 : 0 ≤ least ∧ least ≤ 2) (p_11 : 0 ≤ mo) (p_12 : zz ≤ n) (p_13 : nd = n + 1) (p_14 : sb ≤ sy) (p_15 : ND A (n) (kk) (aa) (bb) (cc) (de) (0) (xx)) : ∀ (m : Nat) (L : jL) (Gx : Nat → Int) (Ax : Nat → Nat → Int) (last many ln1 at1 fk1 nd1 sy1 na1 vi1 lf1 : Int), (li - ln1).toNat = m → jGet L 0 = some (.ref 66) → jGet L 1 = some (.int (i32 (n))) → jGet L 2 = some (.int (i32 (lv))) → jGet L 3 = some (.int (i32 (least))) → jGet L 4 = some (.int (i32 (mo))) → jGet L 5 = some (.int (i32 last)) → jGet L 6 = some (.int (i32 many)) → Wk Gx Ax → Fr [9, 10, 11, 12, 13, 14, 15, 16, 17, 18, 19, 28, 29, 31] [6, 7, 8, 9, 10, 11, 12, 14, 15, 16, 17, 18, 19, 20, 21, 22, 23, 24, 28] G A Gx Ax → Pf zz A Ax → Px (n) (nd) A Ax → Fx sr (sy) A Ax → Fx [14] (vi) A Ax → Gx 9 = ln1 → Gx 10 = at1 → Gx 16 = fk1 → Gx 31 = nd1 → Gx 19 = sy1 → Gx 28 = na1 → Gx 29 = vi1 → Ax 3 (ln1).toNat = lf1 → ((-2147483648 : Int) ≤ last ∧ last ≤ 2147483647) → ((-2147483648 : Int) ≤ many ∧ many ≤ 2147483647) → (fk1 = 0) → (at0 ≤ at1) → (nd ≤ nd1) → (sy ≤ sy1) → (sy1 ≤ na1 + 2) → (vi1 = vi) → (ln ≤ ln1) → (ln1 ≤ li) → (nd1 - nd ≤ 2 * at1 - 2 * at0) → (at1 < lf1 ∨ li ≤ ln1) → (0 ≤ last ∧ last ≤ 6998) → (last = 0 ∨ n < last) → (last < nd1) → (0 ≤ many ∧ many ≤ ln1) → (many ≤ mo) → (ND Ax (n) (kk) (aa) (bb) (cc) (de) (Ax 21 (n).toNat) (xx)) → (CL 0 Ax (sy1) pb (k) (Vs) (n) (last) (many) (n + 1) (nd1) (sy) (sy1)) → wj X d jm296 (6, L, [], rV c0 c1 Gx Ax T) (fun o V' => ∃ (G' : Nat → Int) (A' : Nat → Nat → Int) (ln2 : Int) (at2 : Int) (fk2 : Int) (nd2 : Int) (sy2 : Int) (na2 : Int) (vi2 : Int) (lf2 : Int) (mm : Int) (f2 : Int), V' = rV c0 c1 G' A' T ∧ o = .inl none ∧ Wk G' A' ∧ Fr [9, 10, 11, 12, 13, 14, 15, 16, 17, 18, 19, 28, 29, 31] [6, 7, 8, 9, 10, 11, 12, 14, 15, 16, 17, 18, 19, 20, 21, 22, 23, 24, 28] G A G' A' ∧ Pf zz A A' ∧ Px (n) (nd) A A' ∧ Fx sr (sy) A A' ∧ Fx [14] (vi) A A' ∧ G' 9 = ln2 ∧ G' 10 = at2 ∧ G' 16 = fk2 ∧ G' 31 = nd2 ∧ G' 19 = sy2 ∧ G' 28 = na2 ∧ G' 29 = vi2 ∧ A' 3 (ln2).toNat = lf2 ∧ A' 18 (n).toNat = mm ∧ A' 21 (n).toNat = f2 ∧ (at0 ≤ at2) ∧ (nd ≤ nd2) ∧ (sy ≤ sy2) ∧ (sy2 ≤ na2 + 2) ∧ (ln ≤ ln2) ∧ (ln2 ≤ li) ∧ (vi2 = vi) ∧ (((1 ≤ fk2) ∧ (nd2 - nd ≤ 2 * at2 - 2 * at0 + 12)) ∨ ((fk2 = 0) ∧ (nd2 - nd ≤ 2 * at2 - 2 * at0) ∧ (at2 < lf2 ∨ li ≤ ln2) ∧ (least ≤ mm) ∧ (mm ≤ mo) ∧ (ND A' (n) (kk) (aa) (mm) (cc) (de) (f2) (xx)) ∧ (RL 0 A' (sy2) pb (k) (Vs) (n) (mm) (n + 1) (nd2) (sy) (sy2))))) := by
  have hF0 : Fr [9, 10, 11, 12, 13, 14, 15, 16, 17, 18, 19, 28, 29, 31] [6, 7, 8, 9, 10, 11, 12, 14, 15, 16, 17, 18, 19, 20, 21, 22, 23, 24, 28] G A G A := Fr_rf
  have hP0 : Pf zz A A := Pf_rf
  have hX0 : Px (n) (nd) A A := Px_rf
  have hS0 : Fx sr (sy) A A := Fx_rf
  have hV0 : Fx [14] (vi) A A := Fx_rf
  have b_ln : (0 : Int) ≤ ln ∧ ln ≤ 3000 := e_ln ▸ hW.1 9
  have b_li : (0 : Int) ≤ li ∧ li ≤ 3000 := e_li ▸ hW.1 3
  have b_at0 : (0 : Int) ≤ at0 ∧ at0 ≤ 3002 := e_at0 ▸ hW.1 10
  have b_fk : (0 : Int) ≤ fk ∧ fk ≤ 6 := e_fk ▸ hW.1 16
  have b_nd : (0 : Int) ≤ nd ∧ nd ≤ 6999 := e_nd ▸ hW.1 31
  have b_sy : (0 : Int) ≤ sy ∧ sy ≤ 202 := e_sy ▸ hW.1 19
  have b_na : (0 : Int) ≤ na ∧ na ≤ 200 := e_na ▸ hW.1 28
  have b_vi : (0 : Int) ≤ vi ∧ vi ≤ 202 := e_vi ▸ hW.1 29
  have b_lf : (0 : Int) ≤ lf ∧ lf ≤ 3000 := e_lf ▸ hW.2 3 _
  intro m
  induction m using Nat.strongRecOn with
  | ind m ih6 =>
    intro L Gx Ax last many ln1 at1 fk1 nd1 sy1 na1 vi1 lf1 hm gL_0 gL_1 gL_2 gL_3 gL_4 gL_5 gL_6 hWx hFx hPx hXx hSx hVx ex_ln1 ex_at1 ex_fk1 ex_nd1 ex_sy1 ex_na1 ex_vi1 ex_lf1 rx_last rx_many iv_0 iv_1 iv_2 iv_3 iv_4 iv_5 iv_6 iv_7 iv_8 iv_9 iv_10 iv_11 iv_12 iv_13 iv_14 iv_15 iv_16
    have b_ln1 : (0 : Int) ≤ ln1 ∧ ln1 ≤ 3000 := ex_ln1 ▸ hWx.1 9
    have b_at1 : (0 : Int) ≤ at1 ∧ at1 ≤ 3002 := ex_at1 ▸ hWx.1 10
    have b_fk1 : (0 : Int) ≤ fk1 ∧ fk1 ≤ 6 := ex_fk1 ▸ hWx.1 16
    have b_nd1 : (0 : Int) ≤ nd1 ∧ nd1 ≤ 6999 := ex_nd1 ▸ hWx.1 31
    have b_sy1 : (0 : Int) ≤ sy1 ∧ sy1 ≤ 202 := ex_sy1 ▸ hWx.1 19
    have b_na1 : (0 : Int) ≤ na1 ∧ na1 ≤ 200 := ex_na1 ▸ hWx.1 28
    have b_vi1 : (0 : Int) ≤ vi1 ∧ vi1 ≤ 202 := ex_vi1 ▸ hWx.1 29
    refine jx_ld (pc' := 7) (l' := L) (st' := [.ref 66]) rfl (jl_aloadn gL_0) ?_
    refine jx_ld (pc' := 8) (l' := L) (st' := [.int (i32 (lv)), .ref 66]) rfl (jl_iloadn gL_2) ?_
    have b1 : (-1 : Int) ≤ A 5 (ln1).toNat ∧ A 5 (ln1).toNat ≤ 15 := hW.2 5 _
    refine jx_vr (pc' := 11) (as := [.int (i32 (lv))]) (st := []) rfl rfl rfl rfl ⟨rfl, rfl, Nat.le_of_ble_eq_true rfl⟩ rfl rfl (c_isBelow (dd := d) (hd := by omega) (hW := hWx) (lv := lv) (ln := ln1) (e_ln := show Gx 9 = ln1 from (ex_ln1)) (li := li) (e_li := show Gx 3 = li from ((hFx.1 3 rfl).trans (e_li))) (fk := fk1) (e_fk := show Gx 16 = fk1 from (ex_fk1)) (ll := A 5 (ln1).toNat) (e_ll := show Ax 5 (ln1).toNat = A 5 (ln1).toNat from (congrFun (hFx.2 5 rfl) _))  (h_lv := ⟨(Int.le_trans (by decide : (-2147483648 : Int) ≤ -2147483648) h_lv.1), (Int.le_trans h_lv.2 (by decide : (2147483647 : Int) ≤ 2147483647))⟩)  (p_0 := by omega)) (fun o V' hq => ?_)
    obtain ⟨G2, A3, r4, fk2_5, rfl, rfl, hW6, hF7, b8, e9, q10⟩ := hq
    have hF11 := Fr_tr hFx hF7 (Fr_sub (by decide)) (Fr_sub (by decide))
    have hP12 := Pf_f hPx hF7 (by decide)
    have hX13 := Px_f hXx hF7 (by decide)
    have hS14 := Fx_f hSx hF7 (by decide)
    have hV15 := Fx_f hVx hF7 (by decide)
    have sf16 : ND A3 (n) (kk) (aa) (bb) (cc) (de) (Ax 21 (n).toNat) (xx) := ND_ag (by omega) (Ag_fr hF7 (by decide)) iv_15
    have sf17 : CL 0 A3 (sy1) pb (k) (Vs) (n) (last) (many) (n + 1) (nd1) (sy) (sy1) := CL_ag (by omega) (by omega) (Sg_fr hF7 (by decide)) (Qg_fr hF7 (by decide)) (Ag_fr hF7 (by decide)) (congrFun (hF7.2 21 rfl) _) iv_16
    have bfk2_5 : (0 : Int) ≤ fk2_5 ∧ fk2_5 ≤ 6 := e9 ▸ hW6.1 16
    refine .inr ⟨_, rfl, ?_⟩
    rcases q10 with ⟨rfl, a18, a19, a20, a21⟩ | ⟨rfl, a22⟩ | ⟨rfl, a23, a24, a25⟩
    · have _q : True := trivial
      have b26 : (0 : Int) ≤ A 4 (ln1).toNat ∧ A 4 (ln1).toNat ≤ 3000 := hW.2 4 _
      have lt27 : lf1 < A 4 (ln1).toNat := LT_at (LT_ext (((hF7.1 3 rfl).trans (hFx.1 3 rfl))) (((hF7.2 3 rfl).trans (hFx.2 3 rfl))) (((hF7.2 4 rfl).trans (hFx.2 4 rfl))) i_LT) (show G2 3 = li from ((hF7.1 3 rfl).trans ((hFx.1 3 rfl).trans (e_li)))) (show A3 3 (ln1).toNat = lf1 from (congrFun (hF7.2 3 rfl) _).trans (ex_lf1)) (show A3 4 (ln1).toNat = A 4 (ln1).toNat from (congrFun ((hF7.2 4 rfl).trans (hFx.2 4 rfl)) _)) (by omega) (by omega)
      refine jx_if_eq (pc' := 14) (tg := 98) rfl rfl rfl (by decide) (by decide) (fun h28 => ?_) (fun h28 => ?_)
      · have _q := h28
        exact absurd h28 (by omega)
      · have _q := h28
        refine jx_ld (pc' := 16) (l' := L) (st' := [.int (i32 (many))]) rfl (jl_iload gL_6) ?_
        refine jx_ld (pc' := 18) (l' := L) (st' := [.int (i32 (mo)), .int (i32 (many))]) rfl (jl_iload gL_4) ?_
        refine jx_icmp_ne (pc' := 21) (tg := 46) rfl rfl rfl (Int.le_trans (by decide : (-2147483648 : Int) ≤ -2147483648) rx_many.1) (Int.le_trans rx_many.2 (by decide : (2147483647 : Int) ≤ 2147483647)) (Int.le_trans (by decide : (-2147483648 : Int) ≤ -2147483648) h_mo.1) (Int.le_trans h_mo.2 (by decide : (2147483647 : Int) ≤ 2147483647)) (fun h29 => ?_) (fun h29 => ?_)
        · have _q := h29
          refine jx_ld (pc' := 47) (l' := L) (st' := [.ref 66]) rfl (jl_aloadn gL_0) ?_
          refine jx_ld (pc' := 48) (l' := L) (st' := [.int (i32 (lv)), .ref 66]) rfl (jl_iloadn gL_2) ?_
          refine jx_ar (pc' := 49) (st' := [.int (i32 (1)), .int (i32 (lv)), .ref 66]) rfl rfl rfl rfl ?_
          refine jx_add (pc' := 50) rfl rfl ?_
          refine jx_vr (pc' := 53) (as := [.int (i32 ((lv + 1)))]) (st := []) rfl rfl rfl rfl ⟨rfl, rfl, Nat.le_of_ble_eq_true rfl⟩ rfl rfl (hP (dd := d) (hd := by omega) (hW := hW6) (lv := (lv + 1)) (at0 := at1) (ln := ln1) (e_ln := show G2 9 = ln1 from ((hF7.1 9 rfl).trans (ex_ln1))) (li := li) (e_li := show G2 3 = li from ((hF7.1 3 rfl).trans ((hFx.1 3 rfl).trans (e_li)))) (fk := fk2_5) (e_fk := show G2 16 = fk2_5 from (e9)) (nd := nd1) (e_nd := show G2 31 = nd1 from ((hF7.1 31 rfl).trans (ex_nd1))) (sy := sy1) (e_sy := show G2 19 = sy1 from ((hF7.1 19 rfl).trans (ex_sy1))) (na := na1) (e_na := show G2 28 = na1 from ((hF7.1 28 rfl).trans (ex_na1))) (vi := vi1) (e_vi := show G2 29 = vi1 from ((hF7.1 29 rfl).trans (ex_vi1))) (lf := lf1) (e_lf := show A3 3 (ln1).toNat = lf1 from (congrFun (hF7.2 3 rfl) _).trans (ex_lf1)) (ac := at1) (e_ac := show G2 10 = at1 from ((hF7.1 10 rfl).trans (ex_at1))) (i_LT := (LT_ext (((hF7.1 3 rfl).trans (hFx.1 3 rfl))) (((hF7.2 3 rfl).trans (hFx.2 3 rfl))) (((hF7.2 4 rfl).trans (hFx.2 4 rfl))) i_LT)) (i_SV := (SV_fx i_SV e_vi (show G2 29 = vi1 from ((hF7.1 29 rfl).trans (ex_vi1))) (by omega) hV15)) (i_PQ := (PQ_fx i_PQ hS14 (by omega) (hF11.2 29 rfl) (hF11.2 30 rfl))) (hvb := hvb) (h_lv := ⟨(by omega), (by omega)⟩)  (p_0 := by omega) (p_1 := by omega) (p_2 := by omega) (p_3 := by omega) (p_4 := by omega) (p_5 := by omega) (p_6 := by omega) (p_7 := by omega) (p_8 := by omega) (p_9 := by omega) (p_10 := by omega)) (fun o V' hq => ?_)
          obtain ⟨G30, A31, r32, ln2_33, at2_34, fk2_35, nd2_36, sy2_37, na2_38, vi2_39, lf2_40, rfl, rfl, hW41, hF42, hQ43, hQ44, hQ45, b46, e47, e48, e49, e50, e51, e52, e53, e54, p55, p56, p57, p58, p59, p60, p61, p62, p63, q64⟩ := hq
          have hF65 := Fr_tr hF11 hF42 (Fr_sub (by decide)) (Fr_sub (by decide))
          have hP66 := Pf_tr hP12 hQ43 (by omega)
          have hX67 := Px_p hX13 hQ43 (by omega)
          have hS68 := Fx_tr hS14 hQ44 (by omega)
          have hV69 := Fx_tr hV15 hQ45 (by omega)
          have sf70 : ND A31 (n) (kk) (aa) (bb) (cc) (de) (Ax 21 (n).toNat) (xx) := ND_ag (by omega) (Ag_pf hQ43 (by omega)) sf16
          have sf71 : CL 0 A31 (sy1) pb (k) (Vs) (n) (last) (many) (n + 1) (nd1) (sy) (sy1) := CL_ag (by omega) (by omega) (Fx_su hQ44 (by omega)) (Qg_fr hF42 (by decide)) (Ag_pf hQ43 (by omega)) (hQ43 21 _ rfl (by omega)) sf17
          have bln2_33 : (0 : Int) ≤ ln2_33 ∧ ln2_33 ≤ 3000 := e47 ▸ hW41.1 9
          have bat2_34 : (0 : Int) ≤ at2_34 ∧ at2_34 ≤ 3002 := e48 ▸ hW41.1 10
          have bfk2_35 : (0 : Int) ≤ fk2_35 ∧ fk2_35 ≤ 6 := e49 ▸ hW41.1 16
          have bnd2_36 : (0 : Int) ≤ nd2_36 ∧ nd2_36 ≤ 6999 := e50 ▸ hW41.1 31
          have bsy2_37 : (0 : Int) ≤ sy2_37 ∧ sy2_37 ≤ 202 := e51 ▸ hW41.1 19
          have bna2_38 : (0 : Int) ≤ na2_38 ∧ na2_38 ≤ 200 := e52 ▸ hW41.1 28
          have bvi2_39 : (0 : Int) ≤ vi2_39 ∧ vi2_39 ≤ 202 := e53 ▸ hW41.1 29
          have blf2_40 : (0 : Int) ≤ lf2_40 ∧ lf2_40 ≤ 3000 := e54 ▸ hW41.2 3 _
          refine .inr ⟨_, rfl, ?_⟩
          rcases q64 with ⟨a72, a73⟩ | ⟨a74, a75, a76, a77, a78, a79, a80, a81⟩
          · have _q : True := trivial
            refine jx_ld (pc' := 55) (l' := jSto1 L 7 (.int (i32 (r32)))) (st' := []) rfl rfl ?_
            obtain ⟨L82, eL82⟩ : ∃ q, q = jSto1 L 7 (.int (i32 (r32))) := ⟨_, rfl⟩
            rw [← eL82]
            have gL82_0 : jGet L82 0 = some (.ref 66) := eL82 ▸ jg_ne (by decide) gL_0 rfl
            have gL82_1 : jGet L82 1 = some (.int (i32 (n))) := eL82 ▸ jg_ne (by decide) gL_1 rfl
            have gL82_2 : jGet L82 2 = some (.int (i32 (lv))) := eL82 ▸ jg_ne (by decide) gL_2 rfl
            have gL82_3 : jGet L82 3 = some (.int (i32 (least))) := eL82 ▸ jg_ne (by decide) gL_3 rfl
            have gL82_4 : jGet L82 4 = some (.int (i32 (mo))) := eL82 ▸ jg_ne (by decide) gL_4 rfl
            have gL82_5 : jGet L82 5 = some (.int (i32 (last))) := eL82 ▸ jg_ne (by decide) gL_5 rfl
            have gL82_6 : jGet L82 6 = some (.int (i32 (many))) := eL82 ▸ jg_ne (by decide) gL_6 rfl
            have gL82_7 : jGet L82 7 = some (.int (i32 (r32))) := eL82 ▸ jg_eq
            refine jx_ld (pc' := 56) (l' := L82) (st' := [.ref 66]) rfl (jl_aloadn gL82_0) ?_
            refine jx_vr (pc' := 59) (as := []) (st := []) rfl rfl rfl rfl ⟨rfl, rfl, Nat.le_of_ble_eq_true rfl⟩ rfl rfl (c_bad (dd := d) (hd := by omega) (hW := hW41)  (fk := fk2_35) (e_fk := show G30 16 = fk2_35 from (e49))    ) (fun o V' hq => ?_)
            obtain ⟨r83, rfl, rfl, b84, q85⟩ := hq
            refine .inr ⟨_, rfl, ?_⟩
            rcases q85 with ⟨rfl, a86⟩ | ⟨rfl, a87⟩
            · have _q : True := trivial
              refine jx_if_eq (pc' := 62) (tg := 63) rfl rfl rfl (by decide) (by decide) (fun h88 => ?_) (fun h88 => ?_)
              · have _q := h88
                exact absurd h88 (by omega)
              · have _q := h88
                refine jx_rt (v := none) rfl rfl rfl rfl rfl rfl ?_
                exact ⟨_, _, ln2_33, at2_34, fk2_35, nd2_36, sy2_37, na2_38, vi2_39, lf2_40, A31 18 (n).toNat, A31 21 (n).toNat, rfl, rfl, hW41, hF65, hP66, hX67, hS68, hV69, (e47), (e48), (e49), (e50), (e51), (e52), (e53), (e54), rfl, rfl, by omega, by omega, by omega, by omega, by omega, by omega, by omega, by first | exact Or.inl (⟨by omega, by omega⟩)⟩
            · have _q : True := trivial
              exfalso
              omega
          · have _q : True := trivial
            refine jx_ld (pc' := 55) (l' := jSto1 L 7 (.int (i32 (r32)))) (st' := []) rfl rfl ?_
            obtain ⟨L89, eL89⟩ : ∃ q, q = jSto1 L 7 (.int (i32 (r32))) := ⟨_, rfl⟩
            rw [← eL89]
            have gL89_0 : jGet L89 0 = some (.ref 66) := eL89 ▸ jg_ne (by decide) gL_0 rfl
            have gL89_1 : jGet L89 1 = some (.int (i32 (n))) := eL89 ▸ jg_ne (by decide) gL_1 rfl
            have gL89_2 : jGet L89 2 = some (.int (i32 (lv))) := eL89 ▸ jg_ne (by decide) gL_2 rfl
            have gL89_3 : jGet L89 3 = some (.int (i32 (least))) := eL89 ▸ jg_ne (by decide) gL_3 rfl
            have gL89_4 : jGet L89 4 = some (.int (i32 (mo))) := eL89 ▸ jg_ne (by decide) gL_4 rfl
            have gL89_5 : jGet L89 5 = some (.int (i32 (last))) := eL89 ▸ jg_ne (by decide) gL_5 rfl
            have gL89_6 : jGet L89 6 = some (.int (i32 (many))) := eL89 ▸ jg_ne (by decide) gL_6 rfl
            have gL89_7 : jGet L89 7 = some (.int (i32 (r32))) := eL89 ▸ jg_eq
            refine jx_ld (pc' := 56) (l' := L89) (st' := [.ref 66]) rfl (jl_aloadn gL89_0) ?_
            refine jx_vr (pc' := 59) (as := []) (st := []) rfl rfl rfl rfl ⟨rfl, rfl, Nat.le_of_ble_eq_true rfl⟩ rfl rfl (c_bad (dd := d) (hd := by omega) (hW := hW41)  (fk := fk2_35) (e_fk := show G30 16 = fk2_35 from (e49))    ) (fun o V' hq => ?_)
            obtain ⟨r90, rfl, rfl, b91, q92⟩ := hq
            refine .inr ⟨_, rfl, ?_⟩
            rcases q92 with ⟨rfl, a93⟩ | ⟨rfl, a94⟩
            · have _q : True := trivial
              exfalso
              omega
            · have _q : True := trivial
              refine jx_if_eq (pc' := 62) (tg := 63) rfl rfl rfl (by decide) (by decide) (fun h95 => ?_) (fun h95 => ?_)
              · have _q := h95
                refine jx_ld (pc' := 65) (l' := L89) (st' := [.int (i32 (last))]) rfl (jl_iload gL89_5) ?_
                refine jx_if_ne (pc' := 68) (tg := 79) rfl rfl rfl (Int.le_trans (by decide : (-2147483648 : Int) ≤ -2147483648) rx_last.1) (Int.le_trans rx_last.2 (by decide : (2147483647 : Int) ≤ 2147483647)) (fun h96 => ?_) (fun h96 => ?_)
                · have _q := h96
                  refine jx_ld (pc' := 80) (l' := L89) (st' := [.ref 66]) rfl (jl_aloadn gL89_0) ?_
                  refine jr_get (pc' := 83) (i := 39) (v := .ref 89) rfl rfl (by decide) rfl rfl ?_
                  refine jx_ld (pc' := 85) (l' := L89) (st' := [.int (i32 (last)), .ref 89]) rfl (jl_iload gL89_5) ?_
                  refine jx_ld (pc' := 87) (l' := L89) (st' := [.int (i32 (r32)), .int (i32 (last)), .ref 89]) rfl (jl_iload gL89_7) ?_
                  refine jr_st (pc' := 88) (i := 22) (m := 7000) (z := last) (y := r32) rfl (by decide) rfl (by decide) (by omega) (by omega) rfl ?_
                  have hW98 : Wk G30 (uA A31 22 (last).toNat (r32)) := Wk_a hW41 (show (-2147483648 : Int) ≤ r32 by omega) (show r32 ≤ (2147483647 : Int) by omega)
                  have hF99 := Fr_a (z := r32) (k := 22) (n := (last).toNat) hF65 (by decide)
                  obtain ⟨A97, eA97⟩ : ∃ q, q = uA A31 22 (last).toNat (r32) := ⟨_, rfl⟩
                  rw [← eA97]
                  rw [← eA97] at hW98 hF99
                  have q100 : A97 22 (last).toNat = r32 := by rw [eA97]; exact uA_eq
                  have hP101 : Pf zz A A97 := eA97 ▸ Pf_a hP66 (z := last) (by omega) (by omega)
                  have hX102 : Px (n) (nd) A A97 := eA97 ▸ Px_a hX67 (z := last) (by omega) (by omega)
                  have hS103 : Fx sr (sy) A A97 := eA97 ▸ Fx_n hS68 rfl
                  have hV104 : Fx [14] (vi) A A97 := eA97 ▸ Fx_n hV69 rfl
                  have sf105 : ND A97 (n) (kk) (aa) (bb) (cc) (de) (Ax 21 (n).toNat) (xx) := ND_ag (by omega) (Ag_st eA97 (by omega) (by omega)) sf70
                  have sf106 : CL 0 A97 (sy2_37) pb (k) (Vs) (n) (r32) (many + 1) (n + 1) (nd2_36) (sy) (sy2_37) := CL_two eA97 (by omega) (by omega) (by omega) (by omega) (by omega) (show RQ 0 A31 (sy2_37) pb (k) (Vs) (r32) (nd1) (nd2_36) (sy1) (sy2_37) from wP_eq a80 (by omega) rfl rfl (by omega) rfl (by omega) rfl (by omega)) a81 (CL_sb (by omega) sf71)
                  have sf107 : wP A97 (sy2_37) pb (k) (Vs) (r32) (nd1) (nd2_36) (sy1) (sy2_37) := wP_ag (Sg_ne eA97 rfl) (Qg_ne eA97 rfl) (by omega) (by omega) (Ax_ag (Ag_st eA97 (by omega) (by omega))) a80
                  have sf108 : NX A97 (r32) := NX_ag (by omega) (Ag_st eA97 (by omega) (by omega)) a81
                  refine jx_ld (pc' := 90) (l' := L89) (st' := [.int (i32 (r32))]) rfl (jl_iload gL89_7) ?_
                  refine jx_ld (pc' := 92) (l' := jSto1 L89 5 (.int (i32 (r32)))) (st' := []) rfl rfl ?_
                  obtain ⟨L109, eL109⟩ : ∃ q, q = jSto1 L89 5 (.int (i32 (r32))) := ⟨_, rfl⟩
                  rw [← eL109]
                  have gL109_0 : jGet L109 0 = some (.ref 66) := eL109 ▸ jg_ne (by decide) gL89_0 rfl
                  have gL109_1 : jGet L109 1 = some (.int (i32 (n))) := eL109 ▸ jg_ne (by decide) gL89_1 rfl
                  have gL109_2 : jGet L109 2 = some (.int (i32 (lv))) := eL109 ▸ jg_ne (by decide) gL89_2 rfl
                  have gL109_3 : jGet L109 3 = some (.int (i32 (least))) := eL109 ▸ jg_ne (by decide) gL89_3 rfl
                  have gL109_4 : jGet L109 4 = some (.int (i32 (mo))) := eL109 ▸ jg_ne (by decide) gL89_4 rfl
                  have gL109_6 : jGet L109 6 = some (.int (i32 (many))) := eL109 ▸ jg_ne (by decide) gL89_6 rfl
                  have gL109_7 : jGet L109 7 = some (.int (i32 (r32))) := eL109 ▸ jg_ne (by decide) gL89_7 rfl
                  have gL109_5 : jGet L109 5 = some (.int (i32 (r32))) := eL109 ▸ jg_eq
                  refine jx_inc (pc' := 95) (l' := jSto1 L109 6 (.int (i32 ((many + (1)))))) (x := many) rfl gL109_6 (by decide) rfl rfl ?_
                  obtain ⟨L110, eL110⟩ : ∃ q, q = jSto1 L109 6 (.int (i32 ((many + (1))))) := ⟨_, rfl⟩
                  rw [← eL110]
                  have gL110_0 : jGet L110 0 = some (.ref 66) := eL110 ▸ jg_ne (by decide) gL109_0 rfl
                  have gL110_1 : jGet L110 1 = some (.int (i32 (n))) := eL110 ▸ jg_ne (by decide) gL109_1 rfl
                  have gL110_2 : jGet L110 2 = some (.int (i32 (lv))) := eL110 ▸ jg_ne (by decide) gL109_2 rfl
                  have gL110_3 : jGet L110 3 = some (.int (i32 (least))) := eL110 ▸ jg_ne (by decide) gL109_3 rfl
                  have gL110_4 : jGet L110 4 = some (.int (i32 (mo))) := eL110 ▸ jg_ne (by decide) gL109_4 rfl
                  have gL110_7 : jGet L110 7 = some (.int (i32 (r32))) := eL110 ▸ jg_ne (by decide) gL109_7 rfl
                  have gL110_5 : jGet L110 5 = some (.int (i32 (r32))) := eL110 ▸ jg_ne (by decide) gL109_5 rfl
                  have gL110_6 : jGet L110 6 = some (.int (i32 ((many + (1))))) := eL110 ▸ jg_eq
                  refine jx_go (tg := 6) rfl rfl ?_
                  exact ih6 _ (by omega) L110 G30 A97 (r32) ((many + (1))) (ln2_33) (at2_34) (fk2_35) (nd2_36) (sy2_37) (na2_38) (vi2_39) (lf2_40) rfl gL110_0 gL110_1 gL110_2 gL110_3 gL110_4 gL110_5 gL110_6 hW98 hF99 hP101 hX102 hS103 hV104 ((e47)) ((e48)) ((e49)) ((e50)) ((e51)) ((e52)) ((e53)) ((congrFun ((congrFun eA97 3).trans (uA_ne (by decide))) _).trans (e54)) (by omega) (by omega) (by omega) (by omega) (by omega) (by omega) (by omega) (by omega) (by omega) (by omega) (by omega) (by omega) (by omega) (by omega) (by omega) (by omega) (by omega) ((ND_sf sf105)) ((CL_eq (CL_sb (by omega) sf106) (by omega) (by omega) (by omega) (by omega) (by omega) (by omega)))
                · have _q := h96
                  refine jx_ld (pc' := 69) (l' := L89) (st' := [.ref 66]) rfl (jl_aloadn gL89_0) ?_
                  refine jr_get (pc' := 72) (i := 38) (v := .ref 88) rfl rfl (by decide) rfl rfl ?_
                  refine jx_ld (pc' := 73) (l' := L89) (st' := [.int (i32 (n)), .ref 88]) rfl (jl_iloadn gL89_1) ?_
                  refine jx_ld (pc' := 75) (l' := L89) (st' := [.int (i32 (r32)), .int (i32 (n)), .ref 88]) rfl (jl_iload gL89_7) ?_
                  refine jr_st (pc' := 76) (i := 21) (m := 7000) (z := n) (y := r32) rfl (by decide) rfl (by decide) (by omega) (by omega) rfl ?_
                  have hW112 : Wk G30 (uA A31 21 (n).toNat (r32)) := Wk_a hW41 (show (-2147483648 : Int) ≤ r32 by omega) (show r32 ≤ (2147483647 : Int) by omega)
                  have hF113 := Fr_a (z := r32) (k := 21) (n := (n).toNat) hF65 (by decide)
                  obtain ⟨A111, eA111⟩ : ∃ q, q = uA A31 21 (n).toNat (r32) := ⟨_, rfl⟩
                  rw [← eA111]
                  rw [← eA111] at hW112 hF113
                  have q114 : A111 21 (n).toNat = r32 := by rw [eA111]; exact uA_eq
                  have hP115 : Pf zz A A111 := eA111 ▸ Pf_a hP66 (z := n) (by omega) (by omega)
                  have hX116 : Px (n) (nd) A A111 := eA111 ▸ Px_a hX67 (z := n) (by omega) (by omega)
                  have hS117 : Fx sr (sy) A A111 := eA111 ▸ Fx_n hS68 rfl
                  have hV118 : Fx [14] (vi) A A111 := eA111 ▸ Fx_n hV69 rfl
                  have sf119 : ND A111 (n) (kk) (aa) (bb) (cc) (de) (r32) (xx) := ND_f eA111 sf70
                  have sf120 : CL 0 A111 (sy2_37) pb (k) (Vs) (n) (r32) (many + 1) (n + 1) (nd2_36) (sy) (sy2_37) := CL_one eA111 (by omega) (by omega) (by omega) (by omega) (by omega) (by omega) (show RQ 0 A31 (sy2_37) pb (k) (Vs) (r32) (nd1) (nd2_36) (sy1) (sy2_37) from wP_eq a80 (by omega) rfl rfl (by omega) rfl (by omega) rfl (by omega)) a81 (CL_sb (by omega) sf71)
                  have sf121 : wP A111 (sy2_37) pb (k) (Vs) (r32) (nd1) (nd2_36) (sy1) (sy2_37) := wP_ag (Sg_ne eA111 rfl) (Qg_ne eA111 rfl) (by omega) (by omega) (Ax_ag (Ag_st eA111 (by omega) (by omega))) a80
                  have sf122 : NX A111 (r32) := NX_r eA111 (by decide) a81
                  refine jx_go (tg := 88) rfl rfl ?_
                  refine jx_ld (pc' := 90) (l' := L89) (st' := [.int (i32 (r32))]) rfl (jl_iload gL89_7) ?_
                  refine jx_ld (pc' := 92) (l' := jSto1 L89 5 (.int (i32 (r32)))) (st' := []) rfl rfl ?_
                  obtain ⟨L123, eL123⟩ : ∃ q, q = jSto1 L89 5 (.int (i32 (r32))) := ⟨_, rfl⟩
                  rw [← eL123]
                  have gL123_0 : jGet L123 0 = some (.ref 66) := eL123 ▸ jg_ne (by decide) gL89_0 rfl
                  have gL123_1 : jGet L123 1 = some (.int (i32 (n))) := eL123 ▸ jg_ne (by decide) gL89_1 rfl
                  have gL123_2 : jGet L123 2 = some (.int (i32 (lv))) := eL123 ▸ jg_ne (by decide) gL89_2 rfl
                  have gL123_3 : jGet L123 3 = some (.int (i32 (least))) := eL123 ▸ jg_ne (by decide) gL89_3 rfl
                  have gL123_4 : jGet L123 4 = some (.int (i32 (mo))) := eL123 ▸ jg_ne (by decide) gL89_4 rfl
                  have gL123_6 : jGet L123 6 = some (.int (i32 (many))) := eL123 ▸ jg_ne (by decide) gL89_6 rfl
                  have gL123_7 : jGet L123 7 = some (.int (i32 (r32))) := eL123 ▸ jg_ne (by decide) gL89_7 rfl
                  have gL123_5 : jGet L123 5 = some (.int (i32 (r32))) := eL123 ▸ jg_eq
                  refine jx_inc (pc' := 95) (l' := jSto1 L123 6 (.int (i32 ((many + (1)))))) (x := many) rfl gL123_6 (by decide) rfl rfl ?_
                  obtain ⟨L124, eL124⟩ : ∃ q, q = jSto1 L123 6 (.int (i32 ((many + (1))))) := ⟨_, rfl⟩
                  rw [← eL124]
                  have gL124_0 : jGet L124 0 = some (.ref 66) := eL124 ▸ jg_ne (by decide) gL123_0 rfl
                  have gL124_1 : jGet L124 1 = some (.int (i32 (n))) := eL124 ▸ jg_ne (by decide) gL123_1 rfl
                  have gL124_2 : jGet L124 2 = some (.int (i32 (lv))) := eL124 ▸ jg_ne (by decide) gL123_2 rfl
                  have gL124_3 : jGet L124 3 = some (.int (i32 (least))) := eL124 ▸ jg_ne (by decide) gL123_3 rfl
                  have gL124_4 : jGet L124 4 = some (.int (i32 (mo))) := eL124 ▸ jg_ne (by decide) gL123_4 rfl
                  have gL124_7 : jGet L124 7 = some (.int (i32 (r32))) := eL124 ▸ jg_ne (by decide) gL123_7 rfl
                  have gL124_5 : jGet L124 5 = some (.int (i32 (r32))) := eL124 ▸ jg_ne (by decide) gL123_5 rfl
                  have gL124_6 : jGet L124 6 = some (.int (i32 ((many + (1))))) := eL124 ▸ jg_eq
                  refine jx_go (tg := 6) rfl rfl ?_
                  exact ih6 _ (by omega) L124 G30 A111 (r32) ((many + (1))) (ln2_33) (at2_34) (fk2_35) (nd2_36) (sy2_37) (na2_38) (vi2_39) (lf2_40) rfl gL124_0 gL124_1 gL124_2 gL124_3 gL124_4 gL124_5 gL124_6 hW112 hF113 hP115 hX116 hS117 hV118 ((e47)) ((e48)) ((e49)) ((e50)) ((e51)) ((e52)) ((e53)) ((congrFun ((congrFun eA111 3).trans (uA_ne (by decide))) _).trans (e54)) (by omega) (by omega) (by omega) (by omega) (by omega) (by omega) (by omega) (by omega) (by omega) (by omega) (by omega) (by omega) (by omega) (by omega) (by omega) (by omega) (by omega) ((ND_sf sf119)) ((CL_eq (CL_sb (by omega) sf120) (by omega) (by omega) (by omega) (by omega) (by omega) (by omega)))
              · have _q := h95
                exact absurd h95 (by omega)
        · have _q := h29
          refine jx_ld (pc' := 22) (l' := L) (st' := [.ref 66]) rfl (jl_aloadn gL_0) ?_
          refine jx_ar (pc' := 23) (st' := [.int (i32 (1)), .ref 66]) rfl rfl rfl rfl ?_
          refine jx_ld (pc' := 24) (l' := L) (st' := [.ref 66, .int (i32 (1)), .ref 66]) rfl (jl_aloadn gL_0) ?_
          refine jr_get (pc' := 27) (i := 6) (v := .ref 70) rfl rfl (by decide) rfl rfl ?_
          refine jx_ld (pc' := 28) (l' := L) (st' := [.ref 66, .ref 70, .int (i32 (1)), .ref 66]) rfl (jl_aloadn gL_0) ?_
          refine jr_get (pc' := 31) (i := 9) (v := .int (i32 (ln1))) rfl rfl (by decide) (rFv_eq (by decide) (show G2 9 = ln1 from ((hF7.1 9 rfl).trans (ex_ln1)))) rfl ?_
          refine jr_ldv (pc' := 32) (i := 3) (m := 3001) (z := ln1) (y := lf1) rfl (by decide) rfl (by decide) (Int.le_trans (by decide : (0 : Int) ≤ 0) b_ln1.1) (Int.lt_of_le_of_lt b_ln1.2 (by decide : (3000 : Int) < ((3001 : Nat) : Int))) rfl (show A3 3 (ln1).toNat = lf1 from (congrFun (hF7.2 3 rfl) _).trans (ex_lf1)) ?_
          refine jx_ld (pc' := 33) (l' := L) (st' := [.ref 66, .int (i32 (lf1)), .int (i32 (1)), .ref 66]) rfl (jl_aloadn gL_0) ?_
          refine jr_get (pc' := 36) (i := 5) (v := .ref 69) rfl rfl (by decide) rfl rfl ?_
          refine jx_ld (pc' := 37) (l' := L) (st' := [.ref 66, .ref 69, .int (i32 (lf1)), .int (i32 (1)), .ref 66]) rfl (jl_aloadn gL_0) ?_
          refine jr_get (pc' := 40) (i := 9) (v := .int (i32 (ln1))) rfl rfl (by decide) (rFv_eq (by decide) (show G2 9 = ln1 from ((hF7.1 9 rfl).trans (ex_ln1)))) rfl ?_
          have b125 : (0 : Int) ≤ A 2 (ln1).toNat ∧ A 2 (ln1).toNat ≤ 3000 := hW.2 2 _
          refine jr_ldv (pc' := 41) (i := 2) (m := 3001) (z := ln1) (y := A 2 (ln1).toNat) rfl (by decide) rfl (by decide) (Int.le_trans (by decide : (0 : Int) ≤ 0) b_ln1.1) (Int.lt_of_le_of_lt b_ln1.2 (by decide : (3000 : Int) < ((3001 : Nat) : Int))) rfl (show A3 2 (ln1).toNat = A 2 (ln1).toNat from (congrFun ((hF7.2 2 rfl).trans (hFx.2 2 rfl)) _)) ?_
          refine jx_sub (pc' := 42) rfl rfl ?_
          refine jx_vr (pc' := 45) (as := [.int (i32 (1)), .int (i32 ((lf1 - A 2 (ln1).toNat)))]) (st := []) rfl rfl rfl rfl ⟨rfl, rfl, Nat.le_of_ble_eq_true rfl⟩ rfl rfl (c_fail (dd := d) (hd := by omega) (hW := hW6) (kind := 1) (place := (lf1 - A 2 (ln1).toNat)) (fk := fk2_5) (e_fk := show G2 16 = fk2_5 from (e9))  (h_kind := ⟨(by decide), (by decide)⟩) (h_place := ⟨(by omega), (by omega)⟩)  (p_0 := by omega) (p_1 := by omega)) (fun o V' hq => ?_)
          obtain ⟨G126, A127, fk2_128, rfl, rfl, hW129, hF130, e131, p132, -⟩ := hq
          have hF134 := Fr_tr hF11 hF130 (Fr_sub (by decide)) (Fr_sub (by decide))
          have hP135 := Pf_f hP12 hF130 (by decide)
          have hX136 := Px_f hX13 hF130 (by decide)
          have hS137 := Fx_f hS14 hF130 (by decide)
          have hV138 := Fx_f hV15 hF130 (by decide)
          have sf139 : ND A127 (n) (kk) (aa) (bb) (cc) (de) (Ax 21 (n).toNat) (xx) := ND_ag (by omega) (Ag_fr hF130 (by decide)) sf16
          have sf140 : CL 0 A127 (sy1) pb (k) (Vs) (n) (last) (many) (n + 1) (nd1) (sy) (sy1) := CL_ag (by omega) (by omega) (Sg_fr hF130 (by decide)) (Qg_fr hF130 (by decide)) (Ag_fr hF130 (by decide)) (congrFun (hF130.2 21 rfl) _) sf17
          have bfk2_128 : (0 : Int) ≤ fk2_128 ∧ fk2_128 ≤ 6 := e131 ▸ hW129.1 16
          refine .inl ⟨rfl, ?_⟩
          refine jx_rt (v := none) rfl rfl rfl rfl rfl rfl ?_
          exact ⟨_, _, ln1, at1, fk2_128, nd1, sy1, na1, vi1, lf1, Ax 18 (n).toNat, Ax 21 (n).toNat, rfl, rfl, hW129, hF134, hP135, hX136, hS137, hV138, ((hF130.1 9 rfl).trans ((hF7.1 9 rfl).trans (ex_ln1))), ((hF130.1 10 rfl).trans ((hF7.1 10 rfl).trans (ex_at1))), (e131), ((hF130.1 31 rfl).trans ((hF7.1 31 rfl).trans (ex_nd1))), ((hF130.1 19 rfl).trans ((hF7.1 19 rfl).trans (ex_sy1))), ((hF130.1 28 rfl).trans ((hF7.1 28 rfl).trans (ex_na1))), ((hF130.1 29 rfl).trans ((hF7.1 29 rfl).trans (ex_vi1))), (congrFun ((hF130.2 3 rfl).trans (hF7.2 3 rfl)) _).trans (ex_lf1), (congrFun ((hF130.2 18 rfl).trans (hF7.2 18 rfl)) _), (congrFun ((hF130.2 21 rfl).trans (hF7.2 21 rfl)) _), by omega, by omega, by omega, by omega, by omega, by omega, by omega, by first | exact Or.inl (⟨by omega, by omega⟩)⟩
    · have _q : True := trivial
      refine jx_if_eq (pc' := 14) (tg := 98) rfl rfl rfl (by decide) (by decide) (fun h141 => ?_) (fun h141 => ?_)
      · have _q := h141
        refine jx_ld (pc' := 99) (l' := L) (st' := [.ref 66]) rfl (jl_aloadn gL_0) ?_
        refine jx_vr (pc' := 102) (as := []) (st := []) rfl rfl rfl rfl ⟨rfl, rfl, Nat.le_of_ble_eq_true rfl⟩ rfl rfl (c_bad (dd := d) (hd := by omega) (hW := hW6)  (fk := fk2_5) (e_fk := show G2 16 = fk2_5 from (e9))    ) (fun o V' hq => ?_)
        obtain ⟨r142, rfl, rfl, b143, q144⟩ := hq
        refine .inr ⟨_, rfl, ?_⟩
        rcases q144 with ⟨rfl, a145⟩ | ⟨rfl, a146⟩
        · have _q : True := trivial
          refine jx_if_ne (pc' := 105) (tg := 119) rfl rfl rfl (by decide) (by decide) (fun h147 => ?_) (fun h147 => ?_)
          · have _q := h147
            refine jx_ld (pc' := 120) (l' := L) (st' := [.ref 66]) rfl (jl_aloadn gL_0) ?_
            refine jr_get (pc' := 123) (i := 35) (v := .ref 85) rfl rfl (by decide) rfl rfl ?_
            refine jx_ld (pc' := 124) (l' := L) (st' := [.int (i32 (n)), .ref 85]) rfl (jl_iloadn gL_1) ?_
            refine jx_ld (pc' := 126) (l' := L) (st' := [.int (i32 (many)), .int (i32 (n)), .ref 85]) rfl (jl_iload gL_6) ?_
            refine jr_st (pc' := 127) (i := 18) (m := 7000) (z := n) (y := many) rfl (by decide) rfl (by decide) (by omega) (by omega) rfl ?_
            have hW149 : Wk G2 (uA A3 18 (n).toNat (many)) := Wk_a hW6 (show (-2147483648 : Int) ≤ many by omega) (show many ≤ (2147483647 : Int) by omega)
            have hF150 := Fr_a (z := many) (k := 18) (n := (n).toNat) hF11 (by decide)
            obtain ⟨A148, eA148⟩ : ∃ q, q = uA A3 18 (n).toNat (many) := ⟨_, rfl⟩
            rw [← eA148]
            rw [← eA148] at hW149 hF150
            have q151 : A148 18 (n).toNat = many := by rw [eA148]; exact uA_eq
            have hP152 : Pf zz A A148 := eA148 ▸ Pf_a hP12 (z := n) (by omega) (by omega)
            have hX153 : Px (n) (nd) A A148 := eA148 ▸ Px_a hX13 (z := n) (by omega) (by omega)
            have hS154 : Fx sr (sy) A A148 := eA148 ▸ Fx_n hS14 rfl
            have hV155 : Fx [14] (vi) A A148 := eA148 ▸ Fx_n hV15 rfl
            have sf156 : ND A148 (n) (kk) (aa) (many) (cc) (de) (Ax 21 (n).toNat) (xx) := ND_b eA148 sf16
            have sf157 : CL 0 A148 (sy1) pb (k) (Vs) (n) (last) (many) (n + 1) (nd1) (sy) (sy1) := CL_ag (by omega) (by omega) (Sg_ne eA148 rfl) (Qg_ne eA148 rfl) (Ag_st eA148 (by omega) (by omega)) ((congrFun ((congrFun eA148 21).trans (uA_ne (by decide))) _)) sf17
            refine jx_rt (v := none) rfl rfl rfl rfl rfl rfl ?_
            exact ⟨_, _, ln1, at1, fk2_5, nd1, sy1, na1, vi1, lf1, many, Ax 21 (n).toNat, rfl, rfl, hW149, hF150, hP152, hX153, hS154, hV155, ((hF7.1 9 rfl).trans (ex_ln1)), ((hF7.1 10 rfl).trans (ex_at1)), (e9), ((hF7.1 31 rfl).trans (ex_nd1)), ((hF7.1 19 rfl).trans (ex_sy1)), ((hF7.1 28 rfl).trans (ex_na1)), ((hF7.1 29 rfl).trans (ex_vi1)), (congrFun (((congrFun eA148 3).trans (uA_ne (by decide))).trans (hF7.2 3 rfl)) _).trans (ex_lf1), (q151), (congrFun (((congrFun eA148 21).trans (uA_ne (by decide))).trans (hF7.2 21 rfl)) _), by omega, by omega, by omega, by omega, by omega, by omega, by omega, by first | exact Or.inl (⟨by omega, by omega⟩)⟩
          · have _q := h147
            exact absurd h147 (by omega)
        · have _q : True := trivial
          exfalso
          omega
      · have _q := h141
        exact absurd h141 (by omega)
    · have _q : True := trivial
      refine jx_if_eq (pc' := 14) (tg := 98) rfl rfl rfl (by decide) (by decide) (fun h158 => ?_) (fun h158 => ?_)
      · have _q := h158
        refine jx_ld (pc' := 99) (l' := L) (st' := [.ref 66]) rfl (jl_aloadn gL_0) ?_
        refine jx_vr (pc' := 102) (as := []) (st := []) rfl rfl rfl rfl ⟨rfl, rfl, Nat.le_of_ble_eq_true rfl⟩ rfl rfl (c_bad (dd := d) (hd := by omega) (hW := hW6)  (fk := fk2_5) (e_fk := show G2 16 = fk2_5 from (e9))    ) (fun o V' hq => ?_)
        obtain ⟨r159, rfl, rfl, b160, q161⟩ := hq
        refine .inr ⟨_, rfl, ?_⟩
        rcases q161 with ⟨rfl, a162⟩ | ⟨rfl, a163⟩
        · have _q : True := trivial
          exfalso
          omega
        · have _q : True := trivial
          refine jx_if_ne (pc' := 105) (tg := 119) rfl rfl rfl (by decide) (by decide) (fun h164 => ?_) (fun h164 => ?_)
          · have _q := h164
            exact absurd h164 (by omega)
          · have _q := h164
            refine jx_ld (pc' := 107) (l' := L) (st' := [.int (i32 (many))]) rfl (jl_iload gL_6) ?_
            refine jx_ld (pc' := 108) (l' := L) (st' := [.int (i32 (least)), .int (i32 (many))]) rfl (jl_iloadn gL_3) ?_
            refine jx_icmp_ge (pc' := 111) (tg := 119) rfl rfl rfl (Int.le_trans (by decide : (-2147483648 : Int) ≤ -2147483648) rx_many.1) (Int.le_trans rx_many.2 (by decide : (2147483647 : Int) ≤ 2147483647)) (Int.le_trans (by decide : (-2147483648 : Int) ≤ -2147483648) h_least.1) (Int.le_trans h_least.2 (by decide : (2147483647 : Int) ≤ 2147483647)) (fun h165 => ?_) (fun h165 => ?_)
            · have _q := h165
              refine jx_ld (pc' := 120) (l' := L) (st' := [.ref 66]) rfl (jl_aloadn gL_0) ?_
              refine jr_get (pc' := 123) (i := 35) (v := .ref 85) rfl rfl (by decide) rfl rfl ?_
              refine jx_ld (pc' := 124) (l' := L) (st' := [.int (i32 (n)), .ref 85]) rfl (jl_iloadn gL_1) ?_
              refine jx_ld (pc' := 126) (l' := L) (st' := [.int (i32 (many)), .int (i32 (n)), .ref 85]) rfl (jl_iload gL_6) ?_
              refine jr_st (pc' := 127) (i := 18) (m := 7000) (z := n) (y := many) rfl (by decide) rfl (by decide) (by omega) (by omega) rfl ?_
              have hW167 : Wk G2 (uA A3 18 (n).toNat (many)) := Wk_a hW6 (show (-2147483648 : Int) ≤ many by omega) (show many ≤ (2147483647 : Int) by omega)
              have hF168 := Fr_a (z := many) (k := 18) (n := (n).toNat) hF11 (by decide)
              obtain ⟨A166, eA166⟩ : ∃ q, q = uA A3 18 (n).toNat (many) := ⟨_, rfl⟩
              rw [← eA166]
              rw [← eA166] at hW167 hF168
              have q169 : A166 18 (n).toNat = many := by rw [eA166]; exact uA_eq
              have hP170 : Pf zz A A166 := eA166 ▸ Pf_a hP12 (z := n) (by omega) (by omega)
              have hX171 : Px (n) (nd) A A166 := eA166 ▸ Px_a hX13 (z := n) (by omega) (by omega)
              have hS172 : Fx sr (sy) A A166 := eA166 ▸ Fx_n hS14 rfl
              have hV173 : Fx [14] (vi) A A166 := eA166 ▸ Fx_n hV15 rfl
              have sf174 : ND A166 (n) (kk) (aa) (many) (cc) (de) (Ax 21 (n).toNat) (xx) := ND_b eA166 sf16
              have sf175 : CL 0 A166 (sy1) pb (k) (Vs) (n) (last) (many) (n + 1) (nd1) (sy) (sy1) := CL_ag (by omega) (by omega) (Sg_ne eA166 rfl) (Qg_ne eA166 rfl) (Ag_st eA166 (by omega) (by omega)) ((congrFun ((congrFun eA166 21).trans (uA_ne (by decide))) _)) sf17
              refine jx_rt (v := none) rfl rfl rfl rfl rfl rfl ?_
              exact ⟨_, _, ln1, at1, fk2_5, nd1, sy1, na1, vi1, lf1, many, Ax 21 (n).toNat, rfl, rfl, hW167, hF168, hP170, hX171, hS172, hV173, ((hF7.1 9 rfl).trans (ex_ln1)), ((hF7.1 10 rfl).trans (ex_at1)), (e9), ((hF7.1 31 rfl).trans (ex_nd1)), ((hF7.1 19 rfl).trans (ex_sy1)), ((hF7.1 28 rfl).trans (ex_na1)), ((hF7.1 29 rfl).trans (ex_vi1)), (congrFun (((congrFun eA166 3).trans (uA_ne (by decide))).trans (hF7.2 3 rfl)) _).trans (ex_lf1), (q169), (congrFun (((congrFun eA166 21).trans (uA_ne (by decide))).trans (hF7.2 21 rfl)) _), by omega, by omega, by omega, by omega, by omega, by omega, by omega, by first | exact Or.inr ((⟨by omega, by omega, by omega, by omega, by omega, sf174, (RL_eq (RL_cl sf175) (by omega) (by omega) (by omega) (by omega) (by omega))⟩))⟩
            · have _q := h165
              refine jx_ld (pc' := 112) (l' := L) (st' := [.ref 66]) rfl (jl_aloadn gL_0) ?_
              refine jx_ld (pc' := 113) (l' := L) (st' := [.int (i32 (lv)), .ref 66]) rfl (jl_iloadn gL_2) ?_
              refine jx_ar (pc' := 114) (st' := [.int (i32 (1)), .int (i32 (lv)), .ref 66]) rfl rfl rfl rfl ?_
              refine jx_add (pc' := 115) rfl rfl ?_
              refine jx_vr (pc' := 118) (as := [.int (i32 ((lv + 1)))]) (st := []) rfl rfl rfl rfl ⟨rfl, rfl, Nat.le_of_ble_eq_true rfl⟩ rfl rfl (c_needLevel (dd := d) (hd := by omega) (hW := hW6) (lv := (lv + 1)) (ln := ln1) (e_ln := show G2 9 = ln1 from ((hF7.1 9 rfl).trans (ex_ln1))) (li := li) (e_li := show G2 3 = li from ((hF7.1 3 rfl).trans ((hFx.1 3 rfl).trans (e_li)))) (fk := fk2_5) (e_fk := show G2 16 = fk2_5 from (e9)) (ll := A 5 (ln1).toNat) (e_ll := show A3 5 (ln1).toNat = A 5 (ln1).toNat from (congrFun ((hF7.2 5 rfl).trans (hFx.2 5 rfl)) _))  (h_lv := ⟨(by omega), (by omega)⟩)  ) (fun o V' hq => ?_)
              obtain ⟨G176, A177, r178, fk2_179, rfl, rfl, hW180, hF181, b182, e183, q184⟩ := hq
              have hF185 := Fr_tr hF11 hF181 (Fr_sub (by decide)) (Fr_sub (by decide))
              have hP186 := Pf_f hP12 hF181 (by decide)
              have hX187 := Px_f hX13 hF181 (by decide)
              have hS188 := Fx_f hS14 hF181 (by decide)
              have hV189 := Fx_f hV15 hF181 (by decide)
              have sf190 : ND A177 (n) (kk) (aa) (bb) (cc) (de) (Ax 21 (n).toNat) (xx) := ND_ag (by omega) (Ag_fr hF181 (by decide)) sf16
              have sf191 : CL 0 A177 (sy1) pb (k) (Vs) (n) (last) (many) (n + 1) (nd1) (sy) (sy1) := CL_ag (by omega) (by omega) (Sg_fr hF181 (by decide)) (Qg_fr hF181 (by decide)) (Ag_fr hF181 (by decide)) (congrFun (hF181.2 21 rfl) _) sf17
              have bfk2_179 : (0 : Int) ≤ fk2_179 ∧ fk2_179 ≤ 6 := e183 ▸ hW180.1 16
              refine .inr ⟨_, rfl, ?_⟩
              rcases q184 with ⟨rfl, a192, a193, a194, a195⟩ | ⟨rfl, a196⟩
              · have _q : True := trivial
                have b197 : (0 : Int) ≤ A 4 (ln1).toNat ∧ A 4 (ln1).toNat ≤ 3000 := hW.2 4 _
                have lt198 : lf1 < A 4 (ln1).toNat := LT_at (LT_ext (((hF181.1 3 rfl).trans ((hF7.1 3 rfl).trans (hFx.1 3 rfl)))) (((hF181.2 3 rfl).trans ((hF7.2 3 rfl).trans (hFx.2 3 rfl)))) (((hF181.2 4 rfl).trans ((hF7.2 4 rfl).trans (hFx.2 4 rfl)))) i_LT) (show G176 3 = li from ((hF181.1 3 rfl).trans ((hF7.1 3 rfl).trans ((hFx.1 3 rfl).trans (e_li))))) (show A177 3 (ln1).toNat = lf1 from (congrFun ((hF181.2 3 rfl).trans (hF7.2 3 rfl)) _).trans (ex_lf1)) (show A177 4 (ln1).toNat = A 4 (ln1).toNat from (congrFun ((hF181.2 4 rfl).trans ((hF7.2 4 rfl).trans (hFx.2 4 rfl))) _)) (by omega) (by omega)
                refine jx_ar (pc' := 119) (st' := []) rfl rfl rfl rfl ?_
                refine jx_ld (pc' := 120) (l' := L) (st' := [.ref 66]) rfl (jl_aloadn gL_0) ?_
                refine jr_get (pc' := 123) (i := 35) (v := .ref 85) rfl rfl (by decide) rfl rfl ?_
                refine jx_ld (pc' := 124) (l' := L) (st' := [.int (i32 (n)), .ref 85]) rfl (jl_iloadn gL_1) ?_
                refine jx_ld (pc' := 126) (l' := L) (st' := [.int (i32 (many)), .int (i32 (n)), .ref 85]) rfl (jl_iload gL_6) ?_
                refine jr_st (pc' := 127) (i := 18) (m := 7000) (z := n) (y := many) rfl (by decide) rfl (by decide) (by omega) (by omega) rfl ?_
                have hW200 : Wk G176 (uA A177 18 (n).toNat (many)) := Wk_a hW180 (show (-2147483648 : Int) ≤ many by omega) (show many ≤ (2147483647 : Int) by omega)
                have hF201 := Fr_a (z := many) (k := 18) (n := (n).toNat) hF185 (by decide)
                obtain ⟨A199, eA199⟩ : ∃ q, q = uA A177 18 (n).toNat (many) := ⟨_, rfl⟩
                rw [← eA199]
                rw [← eA199] at hW200 hF201
                have q202 : A199 18 (n).toNat = many := by rw [eA199]; exact uA_eq
                have hP203 : Pf zz A A199 := eA199 ▸ Pf_a hP186 (z := n) (by omega) (by omega)
                have hX204 : Px (n) (nd) A A199 := eA199 ▸ Px_a hX187 (z := n) (by omega) (by omega)
                have hS205 : Fx sr (sy) A A199 := eA199 ▸ Fx_n hS188 rfl
                have hV206 : Fx [14] (vi) A A199 := eA199 ▸ Fx_n hV189 rfl
                have sf207 : ND A199 (n) (kk) (aa) (many) (cc) (de) (Ax 21 (n).toNat) (xx) := ND_b eA199 sf190
                have sf208 : CL 0 A199 (sy1) pb (k) (Vs) (n) (last) (many) (n + 1) (nd1) (sy) (sy1) := CL_ag (by omega) (by omega) (Sg_ne eA199 rfl) (Qg_ne eA199 rfl) (Ag_st eA199 (by omega) (by omega)) ((congrFun ((congrFun eA199 21).trans (uA_ne (by decide))) _)) sf191
                refine jx_rt (v := none) rfl rfl rfl rfl rfl rfl ?_
                exact ⟨_, _, ln1, at1, fk2_179, nd1, sy1, na1, vi1, lf1, many, Ax 21 (n).toNat, rfl, rfl, hW200, hF201, hP203, hX204, hS205, hV206, ((hF181.1 9 rfl).trans ((hF7.1 9 rfl).trans (ex_ln1))), ((hF181.1 10 rfl).trans ((hF7.1 10 rfl).trans (ex_at1))), (e183), ((hF181.1 31 rfl).trans ((hF7.1 31 rfl).trans (ex_nd1))), ((hF181.1 19 rfl).trans ((hF7.1 19 rfl).trans (ex_sy1))), ((hF181.1 28 rfl).trans ((hF7.1 28 rfl).trans (ex_na1))), ((hF181.1 29 rfl).trans ((hF7.1 29 rfl).trans (ex_vi1))), (congrFun (((congrFun eA199 3).trans (uA_ne (by decide))).trans ((hF181.2 3 rfl).trans (hF7.2 3 rfl))) _).trans (ex_lf1), (q202), (congrFun (((congrFun eA199 21).trans (uA_ne (by decide))).trans ((hF181.2 21 rfl).trans (hF7.2 21 rfl))) _), by omega, by omega, by omega, by omega, by omega, by omega, by omega, by first | exact Or.inr ((⟨by omega, by omega, by omega, by omega, by omega, sf207, (RL_eq (RL_cl sf208) (by omega) (by omega) (by omega) (by omega) (by omega))⟩))⟩
              · have _q : True := trivial
                refine jx_ar (pc' := 119) (st' := []) rfl rfl rfl rfl ?_
                refine jx_ld (pc' := 120) (l' := L) (st' := [.ref 66]) rfl (jl_aloadn gL_0) ?_
                refine jr_get (pc' := 123) (i := 35) (v := .ref 85) rfl rfl (by decide) rfl rfl ?_
                refine jx_ld (pc' := 124) (l' := L) (st' := [.int (i32 (n)), .ref 85]) rfl (jl_iloadn gL_1) ?_
                refine jx_ld (pc' := 126) (l' := L) (st' := [.int (i32 (many)), .int (i32 (n)), .ref 85]) rfl (jl_iload gL_6) ?_
                refine jr_st (pc' := 127) (i := 18) (m := 7000) (z := n) (y := many) rfl (by decide) rfl (by decide) (by omega) (by omega) rfl ?_
                have hW210 : Wk G176 (uA A177 18 (n).toNat (many)) := Wk_a hW180 (show (-2147483648 : Int) ≤ many by omega) (show many ≤ (2147483647 : Int) by omega)
                have hF211 := Fr_a (z := many) (k := 18) (n := (n).toNat) hF185 (by decide)
                obtain ⟨A209, eA209⟩ : ∃ q, q = uA A177 18 (n).toNat (many) := ⟨_, rfl⟩
                rw [← eA209]
                rw [← eA209] at hW210 hF211
                have q212 : A209 18 (n).toNat = many := by rw [eA209]; exact uA_eq
                have hP213 : Pf zz A A209 := eA209 ▸ Pf_a hP186 (z := n) (by omega) (by omega)
                have hX214 : Px (n) (nd) A A209 := eA209 ▸ Px_a hX187 (z := n) (by omega) (by omega)
                have hS215 : Fx sr (sy) A A209 := eA209 ▸ Fx_n hS188 rfl
                have hV216 : Fx [14] (vi) A A209 := eA209 ▸ Fx_n hV189 rfl
                have sf217 : ND A209 (n) (kk) (aa) (many) (cc) (de) (Ax 21 (n).toNat) (xx) := ND_b eA209 sf190
                have sf218 : CL 0 A209 (sy1) pb (k) (Vs) (n) (last) (many) (n + 1) (nd1) (sy) (sy1) := CL_ag (by omega) (by omega) (Sg_ne eA209 rfl) (Qg_ne eA209 rfl) (Ag_st eA209 (by omega) (by omega)) ((congrFun ((congrFun eA209 21).trans (uA_ne (by decide))) _)) sf191
                refine jx_rt (v := none) rfl rfl rfl rfl rfl rfl ?_
                exact ⟨_, _, ln1, at1, fk2_179, nd1, sy1, na1, vi1, lf1, many, Ax 21 (n).toNat, rfl, rfl, hW210, hF211, hP213, hX214, hS215, hV216, ((hF181.1 9 rfl).trans ((hF7.1 9 rfl).trans (ex_ln1))), ((hF181.1 10 rfl).trans ((hF7.1 10 rfl).trans (ex_at1))), (e183), ((hF181.1 31 rfl).trans ((hF7.1 31 rfl).trans (ex_nd1))), ((hF181.1 19 rfl).trans ((hF7.1 19 rfl).trans (ex_sy1))), ((hF181.1 28 rfl).trans ((hF7.1 28 rfl).trans (ex_na1))), ((hF181.1 29 rfl).trans ((hF7.1 29 rfl).trans (ex_vi1))), (congrFun (((congrFun eA209 3).trans (uA_ne (by decide))).trans ((hF181.2 3 rfl).trans (hF7.2 3 rfl))) _).trans (ex_lf1), (q212), (congrFun (((congrFun eA209 21).trans (uA_ne (by decide))).trans ((hF181.2 21 rfl).trans (hF7.2 21 rfl))) _), by omega, by omega, by omega, by omega, by omega, by omega, by omega, by first | exact Or.inl (⟨by omega, by omega⟩)⟩
      · have _q := h158
        exact absurd h158 (by omega)
set_option maxRecDepth 20000 in
set_option maxHeartbeats 4000000 in
theorem c_readChildren {X : jX} {k : Nat} (hP : RP X k) {zz : Int} {dd : Nat} {Vs : Nat → Prop} {sb pb : Int} (hvb : VB Vs sb) {c0 c1 : jC} {G : Nat → Int} {A : Nat → Nat → Int} {T : jH} {n lv least mo : Int} {kk aa bb cc de xx : Int} {ln li at0 fk nd sy na vi lf : Int} (hd : 8 * k + 81 ≤ dd) (hW : Wk G A) (e_ln : G 9 = ln) (e_li : G 3 = li) (e_at0 : G 10 = at0) (e_fk : G 16 = fk) (e_nd : G 31 = nd) (e_sy : G 19 = sy) (e_na : G 28 = na) (e_vi : G 29 = vi) (e_lf : A 3 (ln).toNat = lf) (i_LT : LT G A) (i_SV : SV Vs sb G A) (i_PQ : PQ Vs sb pb G A) (h_n : (-2147483648 : Int) ≤ n ∧ n ≤ 2147483647) (h_lv : (-2147483648 : Int) ≤ lv ∧ lv ≤ 2147483647) (h_least : (-2147483648 : Int) ≤ least ∧ least ≤ 2147483647) (h_mo : (-2147483648 : Int) ≤ mo ∧ mo ≤ 2147483647) (p_0 : 0 ≤ n ∧ n ≤ 6998) (p_1 : n < nd) (p_2 : 0 ≤ lv ∧ lv ≤ 15) (p_3 : 17 - lv ≤ (k : Int)) (p_4 : fk = 0) (p_5 : ln ≤ li) (p_6 : at0 < lf ∨ li ≤ ln) (p_7 : nd ≤ 2 * at0 + 32) (p_8 : sy ≤ na + 2) (p_9 : vi ≤ sy) (p_10 : 0 ≤ least ∧ least ≤ 2) (p_11 : 0 ≤ mo) (p_12 : zz ≤ n) (p_13 : nd = n + 1) (p_14 : sb ≤ sy) (p_15 : ND A (n) (kk) (aa) (bb) (cc) (de) (0) (xx)) : wk X dd 296 [.ref 66, .int (i32 n), .int (i32 lv), .int (i32 least), .int (i32 mo)] (rV c0 c1 G A T) (fun o V' => ∃ (G' : Nat → Int) (A' : Nat → Nat → Int) (ln2 : Int) (at2 : Int) (fk2 : Int) (nd2 : Int) (sy2 : Int) (na2 : Int) (vi2 : Int) (lf2 : Int) (mm : Int) (f2 : Int), V' = rV c0 c1 G' A' T ∧ o = .inl none ∧ Wk G' A' ∧ Fr [9, 10, 11, 12, 13, 14, 15, 16, 17, 18, 19, 28, 29, 31] [6, 7, 8, 9, 10, 11, 12, 14, 15, 16, 17, 18, 19, 20, 21, 22, 23, 24, 28] G A G' A' ∧ Pf zz A A' ∧ Px (n) (nd) A A' ∧ Fx sr (sy) A A' ∧ Fx [14] (vi) A A' ∧ G' 9 = ln2 ∧ G' 10 = at2 ∧ G' 16 = fk2 ∧ G' 31 = nd2 ∧ G' 19 = sy2 ∧ G' 28 = na2 ∧ G' 29 = vi2 ∧ A' 3 (ln2).toNat = lf2 ∧ A' 18 (n).toNat = mm ∧ A' 21 (n).toNat = f2 ∧ (at0 ≤ at2) ∧ (nd ≤ nd2) ∧ (sy ≤ sy2) ∧ (sy2 ≤ na2 + 2) ∧ (ln ≤ ln2) ∧ (ln2 ≤ li) ∧ (vi2 = vi) ∧ (((1 ≤ fk2) ∧ (nd2 - nd ≤ 2 * at2 - 2 * at0 + 12)) ∨ ((fk2 = 0) ∧ (nd2 - nd ≤ 2 * at2 - 2 * at0) ∧ (at2 < lf2 ∨ li ≤ ln2) ∧ (least ≤ mm) ∧ (mm ≤ mo) ∧ (ND A' (n) (kk) (aa) (mm) (cc) (de) (f2) (xx)) ∧ (RL 0 A' (sy2) pb (k) (Vs) (n) (mm) (n + 1) (nd2) (sy) (sy2))))) := by
  obtain ⟨d, rfl⟩ : ∃ d, dd = d + 1 := ⟨dd - 1, by omega⟩
  refine wk_of (e := jm296) rfl (Nat.le_of_ble_eq_true rfl) ?_
  show wj X d jm296 (0, [(0, .ref 66), (1, .int (i32 (n))), (2, .int (i32 (lv))), (3, .int (i32 (least))), (4, .int (i32 (mo)))], [], rV c0 c1 G A T) _
  have hF0 : Fr [9, 10, 11, 12, 13, 14, 15, 16, 17, 18, 19, 28, 29, 31] [6, 7, 8, 9, 10, 11, 12, 14, 15, 16, 17, 18, 19, 20, 21, 22, 23, 24, 28] G A G A := Fr_rf
  have hP0 : Pf zz A A := Pf_rf
  have hX0 : Px (n) (nd) A A := Px_rf
  have hS0 : Fx sr (sy) A A := Fx_rf
  have hV0 : Fx [14] (vi) A A := Fx_rf
  have b_ln : (0 : Int) ≤ ln ∧ ln ≤ 3000 := e_ln ▸ hW.1 9
  have b_li : (0 : Int) ≤ li ∧ li ≤ 3000 := e_li ▸ hW.1 3
  have b_at0 : (0 : Int) ≤ at0 ∧ at0 ≤ 3002 := e_at0 ▸ hW.1 10
  have b_fk : (0 : Int) ≤ fk ∧ fk ≤ 6 := e_fk ▸ hW.1 16
  have b_nd : (0 : Int) ≤ nd ∧ nd ≤ 6999 := e_nd ▸ hW.1 31
  have b_sy : (0 : Int) ≤ sy ∧ sy ≤ 202 := e_sy ▸ hW.1 19
  have b_na : (0 : Int) ≤ na ∧ na ≤ 200 := e_na ▸ hW.1 28
  have b_vi : (0 : Int) ≤ vi ∧ vi ≤ 202 := e_vi ▸ hW.1 29
  have b_lf : (0 : Int) ≤ lf ∧ lf ≤ 3000 := e_lf ▸ hW.2 3 _
  refine jx_ar (pc' := 1) (st' := [.int (i32 (0))]) rfl rfl rfl rfl ?_
  refine jx_ld (pc' := 3) (l' := jSto1 [(0, .ref 66), (1, .int (i32 (n))), (2, .int (i32 (lv))), (3, .int (i32 (least))), (4, .int (i32 (mo)))] 5 (.int (i32 (0)))) (st' := []) rfl rfl ?_
  obtain ⟨L219, eL219⟩ : ∃ q, q = jSto1 [(0, .ref 66), (1, .int (i32 (n))), (2, .int (i32 (lv))), (3, .int (i32 (least))), (4, .int (i32 (mo)))] 5 (.int (i32 (0))) := ⟨_, rfl⟩
  rw [← eL219]
  have gL219_0 : jGet L219 0 = some (.ref 66) := eL219 ▸ jg_ne (by decide) (rfl : jGet [(0, .ref 66), (1, .int (i32 (n))), (2, .int (i32 (lv))), (3, .int (i32 (least))), (4, .int (i32 (mo)))] 0 = some (.ref 66)) rfl
  have gL219_1 : jGet L219 1 = some (.int (i32 (n))) := eL219 ▸ jg_ne (by decide) (rfl : jGet [(0, .ref 66), (1, .int (i32 (n))), (2, .int (i32 (lv))), (3, .int (i32 (least))), (4, .int (i32 (mo)))] 1 = some (.int (i32 (n)))) rfl
  have gL219_2 : jGet L219 2 = some (.int (i32 (lv))) := eL219 ▸ jg_ne (by decide) (rfl : jGet [(0, .ref 66), (1, .int (i32 (n))), (2, .int (i32 (lv))), (3, .int (i32 (least))), (4, .int (i32 (mo)))] 2 = some (.int (i32 (lv)))) rfl
  have gL219_3 : jGet L219 3 = some (.int (i32 (least))) := eL219 ▸ jg_ne (by decide) (rfl : jGet [(0, .ref 66), (1, .int (i32 (n))), (2, .int (i32 (lv))), (3, .int (i32 (least))), (4, .int (i32 (mo)))] 3 = some (.int (i32 (least)))) rfl
  have gL219_4 : jGet L219 4 = some (.int (i32 (mo))) := eL219 ▸ jg_ne (by decide) (rfl : jGet [(0, .ref 66), (1, .int (i32 (n))), (2, .int (i32 (lv))), (3, .int (i32 (least))), (4, .int (i32 (mo)))] 4 = some (.int (i32 (mo)))) rfl
  have gL219_5 : jGet L219 5 = some (.int (i32 (0))) := eL219 ▸ jg_eq
  refine jx_ar (pc' := 4) (st' := [.int (i32 (0))]) rfl rfl rfl rfl ?_
  refine jx_ld (pc' := 6) (l' := jSto1 L219 6 (.int (i32 (0)))) (st' := []) rfl rfl ?_
  obtain ⟨L220, eL220⟩ : ∃ q, q = jSto1 L219 6 (.int (i32 (0))) := ⟨_, rfl⟩
  rw [← eL220]
  have gL220_0 : jGet L220 0 = some (.ref 66) := eL220 ▸ jg_ne (by decide) gL219_0 rfl
  have gL220_1 : jGet L220 1 = some (.int (i32 (n))) := eL220 ▸ jg_ne (by decide) gL219_1 rfl
  have gL220_2 : jGet L220 2 = some (.int (i32 (lv))) := eL220 ▸ jg_ne (by decide) gL219_2 rfl
  have gL220_3 : jGet L220 3 = some (.int (i32 (least))) := eL220 ▸ jg_ne (by decide) gL219_3 rfl
  have gL220_4 : jGet L220 4 = some (.int (i32 (mo))) := eL220 ▸ jg_ne (by decide) gL219_4 rfl
  have gL220_5 : jGet L220 5 = some (.int (i32 (0))) := eL220 ▸ jg_ne (by decide) gL219_5 rfl
  have gL220_6 : jGet L220 6 = some (.int (i32 (0))) := eL220 ▸ jg_eq
  exact c_readChildren_at_6 (X := X) (k := k) (hP := hP) (zz := zz) (d := d) (Vs := Vs) (sb := sb) (pb := pb) (hvb := hvb) (c0 := c0) (c1 := c1) (G := G) (A := A) (T := T) (n := n) (lv := lv) (least := least) (mo := mo) (kk := kk) (aa := aa) (bb := bb) (cc := cc) (de := de) (xx := xx) (ln := ln) (li := li) (at0 := at0) (fk := fk) (nd := nd) (sy := sy) (na := na) (vi := vi) (lf := lf) (hd := hd) (hW := hW) (e_ln := e_ln) (e_li := e_li) (e_at0 := e_at0) (e_fk := e_fk) (e_nd := e_nd) (e_sy := e_sy) (e_na := e_na) (e_vi := e_vi) (e_lf := e_lf) (i_LT := i_LT) (i_SV := i_SV) (i_PQ := i_PQ) (h_n := h_n) (h_lv := h_lv) (h_least := h_least) (h_mo := h_mo) (p_0 := p_0) (p_1 := p_1) (p_2 := p_2) (p_3 := p_3) (p_4 := p_4) (p_5 := p_5) (p_6 := p_6) (p_7 := p_7) (p_8 := p_8) (p_9 := p_9) (p_10 := p_10) (p_11 := p_11) (p_12 := p_12) (p_13 := p_13) (p_14 := p_14) (p_15 := p_15) _ L220 G A (0) (0) (ln) (at0) (fk) (nd) (sy) (na) (vi) (lf) rfl gL220_0 gL220_1 gL220_2 gL220_3 gL220_4 gL220_5 gL220_6 hW hF0 hP0 hX0 hS0 hV0 ((e_ln)) ((e_at0)) ((e_fk)) ((e_nd)) ((e_sy)) ((e_na)) ((e_vi)) ((e_lf)) (by omega) (by omega) (by omega) (by omega) (by omega) (by omega) (by omega) (by omega) (by omega) (by omega) (by omega) (by omega) (by omega) (by omega) (by omega) (by omega) (by omega) ((ND_sf p_15)) ((CL_eq (CL_nil (lo := n + 1) (s0 := sy) (ND_f0 p_15)) (by omega) (by omega) (by omega) (by omega) (by omega) (by omega)))
set_option maxRecDepth 20000 in
set_option maxHeartbeats 4000000 in
theorem c_readChildren_f {X : jX} {zz : Int} {dd : Nat} {c0 c1 : jC} {G : Nat → Int} {A : Nat → Nat → Int} {T : jH} {n lv least mo : Int} {fk : Int} (hd : 3 ≤ dd) (hW : Wk G A) (e_fk : G 16 = fk) (h_n : (-2147483648 : Int) ≤ n ∧ n ≤ 2147483647) (h_lv : (-2147483648 : Int) ≤ lv ∧ lv ≤ 2147483647) (h_least : (-2147483648 : Int) ≤ least ∧ least ≤ 2147483647) (h_mo : (-2147483648 : Int) ≤ mo ∧ mo ≤ 2147483647) (p_0 : 0 ≤ n ∧ n ≤ 6998) (p_1 : 0 ≤ lv ∧ lv ≤ 40) (p_2 : 1 ≤ fk) (p_3 : zz ≤ n) : wk X dd 296 [.ref 66, .int (i32 n), .int (i32 lv), .int (i32 least), .int (i32 mo)] (rV c0 c1 G A T) (fun o V' => ∃ (G' : Nat → Int) (A' : Nat → Nat → Int) (fk2 : Int), V' = rV c0 c1 G' A' T ∧ o = .inl none ∧ Wk G' A' ∧ Fr [16, 17, 18] [18] G A G' A' ∧ Pf zz A A' ∧ G' 16 = fk2 ∧ (1 ≤ fk2) ∧ True) := by
  obtain ⟨d, rfl⟩ : ∃ d, dd = d + 1 := ⟨dd - 1, by omega⟩
  refine wk_of (e := jm296) rfl (Nat.le_of_ble_eq_true rfl) ?_
  show wj X d jm296 (0, [(0, .ref 66), (1, .int (i32 (n))), (2, .int (i32 (lv))), (3, .int (i32 (least))), (4, .int (i32 (mo)))], [], rV c0 c1 G A T) _
  have hF0 : Fr [16, 17, 18] [18] G A G A := Fr_rf
  have hP0 : Pf zz A A := Pf_rf
  have b_fk : (0 : Int) ≤ fk ∧ fk ≤ 6 := e_fk ▸ hW.1 16
  refine jx_ar (pc' := 1) (st' := [.int (i32 (0))]) rfl rfl rfl rfl ?_
  refine jx_ld (pc' := 3) (l' := jSto1 [(0, .ref 66), (1, .int (i32 (n))), (2, .int (i32 (lv))), (3, .int (i32 (least))), (4, .int (i32 (mo)))] 5 (.int (i32 (0)))) (st' := []) rfl rfl ?_
  obtain ⟨L1, eL1⟩ : ∃ q, q = jSto1 [(0, .ref 66), (1, .int (i32 (n))), (2, .int (i32 (lv))), (3, .int (i32 (least))), (4, .int (i32 (mo)))] 5 (.int (i32 (0))) := ⟨_, rfl⟩
  rw [← eL1]
  have gL1_0 : jGet L1 0 = some (.ref 66) := eL1 ▸ jg_ne (by decide) (rfl : jGet [(0, .ref 66), (1, .int (i32 (n))), (2, .int (i32 (lv))), (3, .int (i32 (least))), (4, .int (i32 (mo)))] 0 = some (.ref 66)) rfl
  have gL1_1 : jGet L1 1 = some (.int (i32 (n))) := eL1 ▸ jg_ne (by decide) (rfl : jGet [(0, .ref 66), (1, .int (i32 (n))), (2, .int (i32 (lv))), (3, .int (i32 (least))), (4, .int (i32 (mo)))] 1 = some (.int (i32 (n)))) rfl
  have gL1_2 : jGet L1 2 = some (.int (i32 (lv))) := eL1 ▸ jg_ne (by decide) (rfl : jGet [(0, .ref 66), (1, .int (i32 (n))), (2, .int (i32 (lv))), (3, .int (i32 (least))), (4, .int (i32 (mo)))] 2 = some (.int (i32 (lv)))) rfl
  have gL1_3 : jGet L1 3 = some (.int (i32 (least))) := eL1 ▸ jg_ne (by decide) (rfl : jGet [(0, .ref 66), (1, .int (i32 (n))), (2, .int (i32 (lv))), (3, .int (i32 (least))), (4, .int (i32 (mo)))] 3 = some (.int (i32 (least)))) rfl
  have gL1_4 : jGet L1 4 = some (.int (i32 (mo))) := eL1 ▸ jg_ne (by decide) (rfl : jGet [(0, .ref 66), (1, .int (i32 (n))), (2, .int (i32 (lv))), (3, .int (i32 (least))), (4, .int (i32 (mo)))] 4 = some (.int (i32 (mo)))) rfl
  have gL1_5 : jGet L1 5 = some (.int (i32 (0))) := eL1 ▸ jg_eq
  refine jx_ar (pc' := 4) (st' := [.int (i32 (0))]) rfl rfl rfl rfl ?_
  refine jx_ld (pc' := 6) (l' := jSto1 L1 6 (.int (i32 (0)))) (st' := []) rfl rfl ?_
  obtain ⟨L2, eL2⟩ : ∃ q, q = jSto1 L1 6 (.int (i32 (0))) := ⟨_, rfl⟩
  rw [← eL2]
  have gL2_0 : jGet L2 0 = some (.ref 66) := eL2 ▸ jg_ne (by decide) gL1_0 rfl
  have gL2_1 : jGet L2 1 = some (.int (i32 (n))) := eL2 ▸ jg_ne (by decide) gL1_1 rfl
  have gL2_2 : jGet L2 2 = some (.int (i32 (lv))) := eL2 ▸ jg_ne (by decide) gL1_2 rfl
  have gL2_3 : jGet L2 3 = some (.int (i32 (least))) := eL2 ▸ jg_ne (by decide) gL1_3 rfl
  have gL2_4 : jGet L2 4 = some (.int (i32 (mo))) := eL2 ▸ jg_ne (by decide) gL1_4 rfl
  have gL2_5 : jGet L2 5 = some (.int (i32 (0))) := eL2 ▸ jg_ne (by decide) gL1_5 rfl
  have gL2_6 : jGet L2 6 = some (.int (i32 (0))) := eL2 ▸ jg_eq
  refine jx_ld (pc' := 7) (l' := L2) (st' := [.ref 66]) rfl (jl_aloadn gL2_0) ?_
  refine jx_ld (pc' := 8) (l' := L2) (st' := [.int (i32 (lv)), .ref 66]) rfl (jl_iloadn gL2_2) ?_
  have b3 : (0 : Int) ≤ G 9 ∧ G 9 ≤ 3000 := hW.1 9
  have b4 : (0 : Int) ≤ G 3 ∧ G 3 ≤ 3000 := hW.1 3
  have b5 : (-1 : Int) ≤ A 5 (G 9).toNat ∧ A 5 (G 9).toNat ≤ 15 := hW.2 5 _
  refine jx_vr (pc' := 11) (as := [.int (i32 (lv))]) (st := []) rfl rfl rfl rfl ⟨rfl, rfl, Nat.le_of_ble_eq_true rfl⟩ rfl rfl (c_isBelow (dd := d) (hd := by omega) (hW := hW) (lv := lv) (ln := G 9) (e_ln := show G 9 = G 9 from rfl) (li := G 3) (e_li := show G 3 = G 3 from rfl) (fk := fk) (e_fk := show G 16 = fk from (e_fk)) (ll := A 5 (G 9).toNat) (e_ll := show A 5 (G 9).toNat = A 5 (G 9).toNat from rfl)  (h_lv := ⟨(Int.le_trans (by decide : (-2147483648 : Int) ≤ -2147483648) h_lv.1), (Int.le_trans h_lv.2 (by decide : (2147483647 : Int) ≤ 2147483647))⟩)  (p_0 := by omega)) (fun o V' hq => ?_)
  obtain ⟨G6, A7, r8, fk2_9, rfl, rfl, hW10, hF11, b12, e13, q14⟩ := hq
  have hF15 := Fr_tr hF0 hF11 (Fr_sub (by decide)) (Fr_sub (by decide))
  have hP16 := Pf_f hP0 hF11 (by decide)
  have bfk2_9 : (0 : Int) ≤ fk2_9 ∧ fk2_9 ≤ 6 := e13 ▸ hW10.1 16
  refine .inr ⟨_, rfl, ?_⟩
  rcases q14 with ⟨rfl, a17, a18, a19, a20⟩ | ⟨rfl, a21⟩ | ⟨rfl, a22, a23, a24⟩
  · have _q : True := trivial
    exfalso
    omega
  · have _q : True := trivial
    refine jx_if_eq (pc' := 14) (tg := 98) rfl rfl rfl (by decide) (by decide) (fun h25 => ?_) (fun h25 => ?_)
    · have _q := h25
      refine jx_ld (pc' := 99) (l' := L2) (st' := [.ref 66]) rfl (jl_aloadn gL2_0) ?_
      refine jx_vr (pc' := 102) (as := []) (st := []) rfl rfl rfl rfl ⟨rfl, rfl, Nat.le_of_ble_eq_true rfl⟩ rfl rfl (c_bad (dd := d) (hd := by omega) (hW := hW10)  (fk := fk2_9) (e_fk := show G6 16 = fk2_9 from (e13))    ) (fun o V' hq => ?_)
      obtain ⟨r26, rfl, rfl, b27, q28⟩ := hq
      refine .inr ⟨_, rfl, ?_⟩
      rcases q28 with ⟨rfl, a29⟩ | ⟨rfl, a30⟩
      · have _q : True := trivial
        refine jx_if_ne (pc' := 105) (tg := 119) rfl rfl rfl (by decide) (by decide) (fun h31 => ?_) (fun h31 => ?_)
        · have _q := h31
          refine jx_ld (pc' := 120) (l' := L2) (st' := [.ref 66]) rfl (jl_aloadn gL2_0) ?_
          refine jr_get (pc' := 123) (i := 35) (v := .ref 85) rfl rfl (by decide) rfl rfl ?_
          refine jx_ld (pc' := 124) (l' := L2) (st' := [.int (i32 (n)), .ref 85]) rfl (jl_iloadn gL2_1) ?_
          refine jx_ld (pc' := 126) (l' := L2) (st' := [.int (i32 (0)), .int (i32 (n)), .ref 85]) rfl (jl_iload gL2_6) ?_
          refine jr_st (pc' := 127) (i := 18) (m := 7000) (z := n) (y := 0) rfl (by decide) rfl (by decide) (by omega) (by omega) rfl ?_
          have hW33 : Wk G6 (uA A7 18 (n).toNat (0)) := Wk_a hW10 (show (-2147483648 : Int) ≤ 0 by omega) (show 0 ≤ (2147483647 : Int) by omega)
          have hF34 := Fr_a (z := 0) (k := 18) (n := (n).toNat) hF15 (by decide)
          obtain ⟨A32, eA32⟩ : ∃ q, q = uA A7 18 (n).toNat (0) := ⟨_, rfl⟩
          rw [← eA32]
          rw [← eA32] at hW33 hF34
          have q35 : A32 18 (n).toNat = 0 := by rw [eA32]; exact uA_eq
          have hP36 : Pf zz A A32 := eA32 ▸ Pf_a hP16 (z := n) (by omega) (by omega)
          refine jx_rt (v := none) rfl rfl rfl rfl rfl rfl ?_
          exact ⟨_, _, fk2_9, rfl, rfl, hW33, hF34, hP36, (e13), by omega, trivial⟩
        · have _q := h31
          exact absurd h31 (by omega)
      · have _q : True := trivial
        exfalso
        omega
    · have _q := h25
      exact absurd h25 (by omega)
  · have _q : True := trivial
    exfalso
    omega
set_option maxRecDepth 20000 in
set_option maxHeartbeats 4000000 in
theorem c_readIndexed {X : jX} {k : Nat} (hP : RP X k) {zz : Int} {dd : Nat} {Vs : Nat → Prop} {sb pb : Int} (hvb : VB Vs sb) {c0 c1 : jC} {G : Nat → Int} {A : Nat → Nat → Int} {T : jH} {n lv : Int} {kk bb cc de xx : Int} {ln li at0 fk nd sy na vi lf sa ksa : Int} (hd : 8 * k + 81 ≤ dd) (hW : Wk G A) (e_ln : G 9 = ln) (e_li : G 3 = li) (e_at0 : G 10 = at0) (e_fk : G 16 = fk) (e_nd : G 31 = nd) (e_sy : G 19 = sy) (e_na : G 28 = na) (e_vi : G 29 = vi) (e_lf : A 3 (ln).toNat = lf) (e_sa : A 17 (n).toNat = sa) (e_ksa : A 7 (sa).toNat = ksa) (i_LT : LT G A) (i_SV : SV Vs sb G A) (i_PQ : PQ Vs sb pb G A) (h_n : (-2147483648 : Int) ≤ n ∧ n ≤ 2147483647) (h_lv : (-2147483648 : Int) ≤ lv ∧ lv ≤ 2147483647) (p_0 : 0 ≤ n ∧ n ≤ 6998) (p_1 : n < nd) (p_2 : 0 ≤ lv ∧ lv ≤ 15) (p_3 : 17 - lv ≤ (k : Int)) (p_4 : fk = 0) (p_5 : ln ≤ li) (p_6 : at0 < lf ∨ li ≤ ln) (p_7 : nd ≤ 2 * at0 + 32) (p_8 : sy ≤ na + 2) (p_9 : vi ≤ sy) (p_10 : 0 ≤ sa ∧ sa ≤ 201) (p_11 : vi < sy) (p_12 : zz ≤ n) (p_13 : sa = sy - 1) (p_14 : sb ≤ sa) (p_15 : ksa ≤ 13) (p_16 : ND A (n) (kk) (sa) (bb) (cc) (de) (0) (xx)) : wk X dd 298 [.ref 66, .int (i32 n), .int (i32 lv)] (rV c0 c1 G A T) (fun o V' => ∃ (G' : Nat → Int) (A' : Nat → Nat → Int) (ln2 : Int) (at2 : Int) (fk2 : Int) (nd2 : Int) (sy2 : Int) (na2 : Int) (vi2 : Int) (lf2 : Int) (f2 : Int), V' = rV c0 c1 G' A' T ∧ o = .inl (some (.int (i32 (n)))) ∧ Wk G' A' ∧ Fr [9, 10, 11, 12, 13, 14, 15, 16, 17, 18, 19, 28, 29, 31] [6, 7, 8, 9, 10, 11, 12, 14, 15, 16, 17, 18, 19, 20, 21, 22, 23, 24, 28] G A G' A' ∧ Pf zz A A' ∧ Px (n) (nd) A A' ∧ Fx sr (sy) A A' ∧ Fx [14] (vi) A A' ∧ G' 9 = ln2 ∧ G' 10 = at2 ∧ G' 16 = fk2 ∧ G' 31 = nd2 ∧ G' 19 = sy2 ∧ G' 28 = na2 ∧ G' 29 = vi2 ∧ A' 3 (ln2).toNat = lf2 ∧ A' 21 (n).toNat = f2 ∧ (at0 ≤ at2) ∧ (nd ≤ nd2) ∧ (sy ≤ sy2) ∧ (sy2 ≤ na2 + 2) ∧ (ln ≤ ln2) ∧ (ln2 ≤ li) ∧ (vi2 = vi) ∧ (((1 ≤ fk2) ∧ (nd2 - nd ≤ 2 * at2 - 2 * at0 + 12)) ∨ ((fk2 = 0) ∧ (nd2 - nd ≤ 2 * at2 - 2 * at0) ∧ (at2 < lf2 ∨ li ≤ ln2) ∧ (ln < ln2) ∧ (ND A' (n) (kk) (sa) (bb) (cc) (de) (f2) (xx)) ∧ (wP A' (sy2) pb (k) (Vu Vs sa) (f2) (nd) (nd2) (sy) (sy2))))) := by
  obtain ⟨d, rfl⟩ : ∃ d, dd = d + 1 := ⟨dd - 1, by omega⟩
  refine wk_of (e := jm298) rfl (Nat.le_of_ble_eq_true rfl) ?_
  show wj X d jm298 (0, [(0, .ref 66), (1, .int (i32 (n))), (2, .int (i32 (lv)))], [], rV c0 c1 G A T) _
  have hF0 : Fr [9, 10, 11, 12, 13, 14, 15, 16, 17, 18, 19, 28, 29, 31] [6, 7, 8, 9, 10, 11, 12, 14, 15, 16, 17, 18, 19, 20, 21, 22, 23, 24, 28] G A G A := Fr_rf
  have hP0 : Pf zz A A := Pf_rf
  have hX0 : Px (n) (nd) A A := Px_rf
  have hS0 : Fx sr (sy) A A := Fx_rf
  have hV0 : Fx [14] (vi) A A := Fx_rf
  have b_ln : (0 : Int) ≤ ln ∧ ln ≤ 3000 := e_ln ▸ hW.1 9
  have b_li : (0 : Int) ≤ li ∧ li ≤ 3000 := e_li ▸ hW.1 3
  have b_at0 : (0 : Int) ≤ at0 ∧ at0 ≤ 3002 := e_at0 ▸ hW.1 10
  have b_fk : (0 : Int) ≤ fk ∧ fk ≤ 6 := e_fk ▸ hW.1 16
  have b_nd : (0 : Int) ≤ nd ∧ nd ≤ 6999 := e_nd ▸ hW.1 31
  have b_sy : (0 : Int) ≤ sy ∧ sy ≤ 202 := e_sy ▸ hW.1 19
  have b_na : (0 : Int) ≤ na ∧ na ≤ 200 := e_na ▸ hW.1 28
  have b_vi : (0 : Int) ≤ vi ∧ vi ≤ 202 := e_vi ▸ hW.1 29
  have b_lf : (0 : Int) ≤ lf ∧ lf ≤ 3000 := e_lf ▸ hW.2 3 _
  have b_sa : (-2147483648 : Int) ≤ sa ∧ sa ≤ 2147483647 := e_sa ▸ hW.2 17 _
  have b_ksa : (0 : Int) ≤ ksa ∧ ksa ≤ 14 := e_ksa ▸ hW.2 7 _
  refine jx_ld (pc' := 1) (l' := [(0, .ref 66), (1, .int (i32 (n))), (2, .int (i32 (lv)))]) (st' := [.ref 66]) rfl (jl_aloadn rfl) ?_
  refine jx_vr (pc' := 4) (as := []) (st := []) rfl rfl rfl rfl ⟨rfl, rfl, Nat.le_of_ble_eq_true rfl⟩ rfl rfl (c_bad (dd := d) (hd := by omega) (hW := hW)  (fk := fk) (e_fk := show G 16 = fk from (e_fk))    ) (fun o V' hq => ?_)
  obtain ⟨r1, rfl, rfl, b2, q3⟩ := hq
  refine .inr ⟨_, rfl, ?_⟩
  rcases q3 with ⟨rfl, a4⟩ | ⟨rfl, a5⟩
  · have _q : True := trivial
    exfalso
    omega
  · have _q : True := trivial
    refine jx_if_eq (pc' := 7) (tg := 9) rfl rfl rfl (by decide) (by decide) (fun h6 => ?_) (fun h6 => ?_)
    · have _q := h6
      refine jx_ld (pc' := 10) (l' := [(0, .ref 66), (1, .int (i32 (n))), (2, .int (i32 (lv)))]) (st' := [.ref 66]) rfl (jl_aloadn rfl) ?_
      refine jr_get (pc' := 13) (i := 29) (v := .int (i32 (vi))) rfl rfl (by decide) (rFv_eq (by decide) (show G 29 = vi from (e_vi))) rfl ?_
      refine jx_ld (pc' := 14) (l' := jSto1 [(0, .ref 66), (1, .int (i32 (n))), (2, .int (i32 (lv)))] 3 (.int (i32 (vi)))) (st' := []) rfl rfl ?_
      obtain ⟨L7, eL7⟩ : ∃ q, q = jSto1 [(0, .ref 66), (1, .int (i32 (n))), (2, .int (i32 (lv)))] 3 (.int (i32 (vi))) := ⟨_, rfl⟩
      rw [← eL7]
      have gL7_0 : jGet L7 0 = some (.ref 66) := eL7 ▸ jg_ne (by decide) (rfl : jGet [(0, .ref 66), (1, .int (i32 (n))), (2, .int (i32 (lv)))] 0 = some (.ref 66)) rfl
      have gL7_1 : jGet L7 1 = some (.int (i32 (n))) := eL7 ▸ jg_ne (by decide) (rfl : jGet [(0, .ref 66), (1, .int (i32 (n))), (2, .int (i32 (lv)))] 1 = some (.int (i32 (n)))) rfl
      have gL7_2 : jGet L7 2 = some (.int (i32 (lv))) := eL7 ▸ jg_ne (by decide) (rfl : jGet [(0, .ref 66), (1, .int (i32 (n))), (2, .int (i32 (lv)))] 2 = some (.int (i32 (lv)))) rfl
      have gL7_3 : jGet L7 3 = some (.int (i32 (vi))) := eL7 ▸ jg_eq
      refine jx_ld (pc' := 15) (l' := L7) (st' := [.ref 66]) rfl (jl_aloadn gL7_0) ?_
      refine jx_ld (pc' := 16) (l' := L7) (st' := [.ref 66, .ref 66]) rfl (jl_aloadn gL7_0) ?_
      refine jr_get (pc' := 19) (i := 34) (v := .ref 84) rfl rfl (by decide) rfl rfl ?_
      refine jx_ld (pc' := 20) (l' := L7) (st' := [.int (i32 (n)), .ref 84, .ref 66]) rfl (jl_iloadn gL7_1) ?_
      refine jr_ldv (pc' := 21) (i := 17) (m := 7000) (z := n) (y := sa) rfl (by decide) rfl (by decide) (by omega) (by omega) rfl (show A 17 (n).toNat = sa from (e_sa)) ?_
      refine jx_vr (pc' := 24) (as := [.int (i32 (sa))]) (st := []) rfl rfl rfl rfl ⟨rfl, rfl, Nat.le_of_ble_eq_true rfl⟩ rfl rfl (c_show (dd := d) (hd := by omega) (hW := hW) (s := sa) (vi := vi) (e_vi := show G 29 = vi from (e_vi))  (h_s := ⟨(Int.le_trans (by decide : (-2147483648 : Int) ≤ -2147483648) b_sa.1), (Int.le_trans b_sa.2 (by decide : (2147483647 : Int) ≤ 2147483647))⟩)  (p_0 := by omega) (p_1 := by omega)) (fun o V' hq => ?_)
      obtain ⟨G8, A9, vi2_10, sv2_11, rfl, rfl, hW12, hF13, hQ14, e15, e16, p17, p18, -⟩ := hq
      have hF20 := Fr_tr hF0 hF13 (Fr_sub (by decide)) (Fr_sub (by decide))
      have hP21 := Pf_f hP0 hF13 (by decide)
      have hX22 := Px_f hX0 hF13 (by decide)
      have hS23 := Fx_f hS0 hF13 (by decide)
      have hV24 := Fx_tr hV0 hQ14 (by omega)
      have sf25 : ND A9 (n) (kk) (sa) (bb) (cc) (de) (0) (xx) := ND_ag (by omega) (Ag_fr hF13 (by decide)) p_16
      have bvi2_10 : (0 : Int) ≤ vi2_10 ∧ vi2_10 ≤ 202 := e15 ▸ hW12.1 29
      have bsv2_11 : (0 : Int) ≤ sv2_11 ∧ sv2_11 ≤ 201 := e16 ▸ hW12.2 14 _
      refine .inl ⟨rfl, ?_⟩
      refine jx_ld (pc' := 25) (l' := L7) (st' := [.ref 66]) rfl (jl_aloadn gL7_0) ?_
      refine jr_get (pc' := 28) (i := 38) (v := .ref 88) rfl rfl (by decide) rfl rfl ?_
      refine jx_ld (pc' := 29) (l' := L7) (st' := [.int (i32 (n)), .ref 88]) rfl (jl_iloadn gL7_1) ?_
      refine jx_ld (pc' := 30) (l' := L7) (st' := [.ref 66, .int (i32 (n)), .ref 88]) rfl (jl_aloadn gL7_0) ?_
      refine jx_ld (pc' := 31) (l' := L7) (st' := [.int (i32 (lv)), .ref 66, .int (i32 (n)), .ref 88]) rfl (jl_iloadn gL7_2) ?_
      refine jx_ar (pc' := 32) (st' := [.int (i32 (1)), .int (i32 (lv)), .ref 66, .int (i32 (n)), .ref 88]) rfl rfl rfl rfl ?_
      refine jx_add (pc' := 33) rfl rfl ?_
      refine jx_vr (pc' := 36) (as := [.int (i32 ((lv + 1)))]) (st := [.int (i32 (n)), .ref 88]) rfl rfl rfl rfl ⟨rfl, rfl, Nat.le_of_ble_eq_true rfl⟩ rfl rfl (hP (dd := d) (hd := by omega) (hW := hW12) (lv := (lv + 1)) (at0 := at0) (ln := ln) (e_ln := show G8 9 = ln from ((hF13.1 9 rfl).trans (e_ln))) (li := li) (e_li := show G8 3 = li from ((hF13.1 3 rfl).trans (e_li))) (fk := fk) (e_fk := show G8 16 = fk from ((hF13.1 16 rfl).trans (e_fk))) (nd := nd) (e_nd := show G8 31 = nd from ((hF13.1 31 rfl).trans (e_nd))) (sy := sy) (e_sy := show G8 19 = sy from ((hF13.1 19 rfl).trans (e_sy))) (na := na) (e_na := show G8 28 = na from ((hF13.1 28 rfl).trans (e_na))) (vi := vi2_10) (e_vi := show G8 29 = vi2_10 from (e15)) (lf := lf) (e_lf := show A9 3 (ln).toNat = lf from (congrFun (hF13.2 3 rfl) _).trans (e_lf)) (ac := at0) (e_ac := show G8 10 = at0 from ((hF13.1 10 rfl).trans (e_at0))) (i_LT := (LT_ext ((hF13.1 3 rfl)) ((hF13.2 3 rfl)) ((hF13.2 4 rfl)) i_LT)) (i_SV := (SV_show (w := sy) i_SV e_vi (show G8 29 = vi2_10 from (e15)) (by omega) hV24 ((show A9 14 (vi).toNat = sv2_11 from (e16)).trans (by omega : sv2_11 = sa)) (by omega) (by omega) (by omega) (by omega))) (i_PQ := (PQ_show (w := sy) (kd := ksa) i_PQ (Fx_su hS23 (by omega)) (by omega) (hF20.2 29 rfl) (hF20.2 30 rfl) (by omega) (show A9 7 (sa).toNat = ksa from (congrFun (hF13.2 7 rfl) _).trans (e_ksa)) (by omega) hvb)) (hvb := (VB_u (s := sa) (w := sy) hvb (by omega) (by omega))) (h_lv := ⟨(by omega), (by omega)⟩)  (p_0 := by omega) (p_1 := by omega) (p_2 := by omega) (p_3 := by omega) (p_4 := by omega) (p_5 := by omega) (p_6 := by omega) (p_7 := by omega) (p_8 := by omega) (p_9 := by omega) (p_10 := by omega)) (fun o V' hq => ?_)
      obtain ⟨G26, A27, r28, ln2_29, at2_30, fk2_31, nd2_32, sy2_33, na2_34, vi2_35, lf2_36, rfl, rfl, hW37, hF38, hQ39, hQ40, hQ41, b42, e43, e44, e45, e46, e47, e48, e49, e50, p51, p52, p53, p54, p55, p56, p57, p58, p59, q60⟩ := hq
      have hF61 := Fr_tr hF20 hF38 (Fr_sub (by decide)) (Fr_sub (by decide))
      have hP62 := Pf_tr hP21 hQ39 (by omega)
      have hX63 := Px_p hX22 hQ39 (by omega)
      have hS64 := Fx_tr hS23 hQ40 (by omega)
      have hV65 := Fx_tr hV24 hQ41 (by omega)
      have sf66 : ND A27 (n) (kk) (sa) (bb) (cc) (de) (0) (xx) := ND_ag (by omega) (Ag_pf hQ39 (by omega)) sf25
      have bln2_29 : (0 : Int) ≤ ln2_29 ∧ ln2_29 ≤ 3000 := e43 ▸ hW37.1 9
      have bat2_30 : (0 : Int) ≤ at2_30 ∧ at2_30 ≤ 3002 := e44 ▸ hW37.1 10
      have bfk2_31 : (0 : Int) ≤ fk2_31 ∧ fk2_31 ≤ 6 := e45 ▸ hW37.1 16
      have bnd2_32 : (0 : Int) ≤ nd2_32 ∧ nd2_32 ≤ 6999 := e46 ▸ hW37.1 31
      have bsy2_33 : (0 : Int) ≤ sy2_33 ∧ sy2_33 ≤ 202 := e47 ▸ hW37.1 19
      have bna2_34 : (0 : Int) ≤ na2_34 ∧ na2_34 ≤ 200 := e48 ▸ hW37.1 28
      have bvi2_35 : (0 : Int) ≤ vi2_35 ∧ vi2_35 ≤ 202 := e49 ▸ hW37.1 29
      have blf2_36 : (0 : Int) ≤ lf2_36 ∧ lf2_36 ≤ 3000 := e50 ▸ hW37.2 3 _
      refine .inr ⟨_, rfl, ?_⟩
      rcases q60 with ⟨a67, a68⟩ | ⟨a69, a70, a71, a72, a73, a74, a75, a76⟩
      · have _q : True := trivial
        refine jr_st (pc' := 37) (i := 21) (m := 7000) (z := n) (y := r28) rfl (by decide) rfl (by decide) (by omega) (by omega) rfl ?_
        have hW78 : Wk G26 (uA A27 21 (n).toNat (r28)) := Wk_a hW37 (show (-2147483648 : Int) ≤ r28 by omega) (show r28 ≤ (2147483647 : Int) by omega)
        have hF79 := Fr_a (z := r28) (k := 21) (n := (n).toNat) hF61 (by decide)
        obtain ⟨A77, eA77⟩ : ∃ q, q = uA A27 21 (n).toNat (r28) := ⟨_, rfl⟩
        rw [← eA77]
        rw [← eA77] at hW78 hF79
        have q80 : A77 21 (n).toNat = r28 := by rw [eA77]; exact uA_eq
        have hP81 : Pf zz A A77 := eA77 ▸ Pf_a hP62 (z := n) (by omega) (by omega)
        have hX82 : Px (n) (nd) A A77 := eA77 ▸ Px_a hX63 (z := n) (by omega) (by omega)
        have hS83 : Fx sr (sy) A A77 := eA77 ▸ Fx_n hS64 rfl
        have hV84 : Fx [14] (vi) A A77 := eA77 ▸ Fx_n hV65 rfl
        have sf85 : ND A77 (n) (kk) (sa) (bb) (cc) (de) (r28) (xx) := ND_f eA77 sf66
        refine jx_ld (pc' := 38) (l' := L7) (st' := [.ref 66]) rfl (jl_aloadn gL7_0) ?_
        refine jx_ld (pc' := 39) (l' := L7) (st' := [.int (i32 (vi)), .ref 66]) rfl (jl_iloadn gL7_3) ?_
        refine jr_put (pc' := 42) (i := 29) (z := vi) rfl rfl (by decide) rfl rfl rfl rfl rfl rfl ?_
        have hW86 : Wk (uG G26 29 (vi)) A77 := Wk_g hW78 (show (0 : Int) ≤ vi by omega) (show vi ≤ (202 : Int) by omega)
        have hF87 := Fr_g (z := vi) (i := 29) hF79 (by decide)
        refine jx_ld (pc' := 43) (l' := L7) (st' := [.int (i32 (n))]) rfl (jl_iloadn gL7_1) ?_
        refine jx_rt (v := some (.int (i32 (n)))) rfl rfl rfl rfl rfl rfl ?_
        exact ⟨_, _, ln2_29, at2_30, fk2_31, nd2_32, sy2_33, na2_34, vi, lf2_36, r28, rfl, rfl, hW86, hF87, hP81, hX82, hS83, hV84, (e43), (e44), (e45), (e46), (e47), (e48), rfl, (congrFun ((congrFun eA77 3).trans (uA_ne (by decide))) _).trans (e50), (q80), by omega, by omega, by omega, by omega, by omega, by omega, by omega, by first | exact Or.inl (⟨by omega, by omega⟩)⟩
      · have _q : True := trivial
        refine jr_st (pc' := 37) (i := 21) (m := 7000) (z := n) (y := r28) rfl (by decide) rfl (by decide) (by omega) (by omega) rfl ?_
        have hW89 : Wk G26 (uA A27 21 (n).toNat (r28)) := Wk_a hW37 (show (-2147483648 : Int) ≤ r28 by omega) (show r28 ≤ (2147483647 : Int) by omega)
        have hF90 := Fr_a (z := r28) (k := 21) (n := (n).toNat) hF61 (by decide)
        obtain ⟨A88, eA88⟩ : ∃ q, q = uA A27 21 (n).toNat (r28) := ⟨_, rfl⟩
        rw [← eA88]
        rw [← eA88] at hW89 hF90
        have q91 : A88 21 (n).toNat = r28 := by rw [eA88]; exact uA_eq
        have hP92 : Pf zz A A88 := eA88 ▸ Pf_a hP62 (z := n) (by omega) (by omega)
        have hX93 : Px (n) (nd) A A88 := eA88 ▸ Px_a hX63 (z := n) (by omega) (by omega)
        have hS94 : Fx sr (sy) A A88 := eA88 ▸ Fx_n hS64 rfl
        have hV95 : Fx [14] (vi) A A88 := eA88 ▸ Fx_n hV65 rfl
        have sf96 : ND A88 (n) (kk) (sa) (bb) (cc) (de) (r28) (xx) := ND_f eA88 sf66
        have sf97 : wP A88 (sy2_33) pb (k) (Vu Vs sa) (r28) (nd) (nd2_32) (sy) (sy2_33) := wP_ag (Sg_ne eA88 rfl) (Qg_ne eA88 rfl) (by omega) (by omega) (Ax_ag (Ag_st eA88 (by omega) (by omega))) a75
        have sf98 : NX A88 (r28) := NX_r eA88 (by decide) a76
        refine jx_ld (pc' := 38) (l' := L7) (st' := [.ref 66]) rfl (jl_aloadn gL7_0) ?_
        refine jx_ld (pc' := 39) (l' := L7) (st' := [.int (i32 (vi)), .ref 66]) rfl (jl_iloadn gL7_3) ?_
        refine jr_put (pc' := 42) (i := 29) (z := vi) rfl rfl (by decide) rfl rfl rfl rfl rfl rfl ?_
        have hW99 : Wk (uG G26 29 (vi)) A88 := Wk_g hW89 (show (0 : Int) ≤ vi by omega) (show vi ≤ (202 : Int) by omega)
        have hF100 := Fr_g (z := vi) (i := 29) hF90 (by decide)
        refine jx_ld (pc' := 43) (l' := L7) (st' := [.int (i32 (n))]) rfl (jl_iloadn gL7_1) ?_
        refine jx_rt (v := some (.int (i32 (n)))) rfl rfl rfl rfl rfl rfl ?_
        exact ⟨_, _, ln2_29, at2_30, fk2_31, nd2_32, sy2_33, na2_34, vi, lf2_36, r28, rfl, rfl, hW99, hF100, hP92, hX93, hS94, hV95, (e43), (e44), (e45), (e46), (e47), (e48), rfl, (congrFun ((congrFun eA88 3).trans (uA_ne (by decide))) _).trans (e50), (q91), by omega, by omega, by omega, by omega, by omega, by omega, by omega, by first | exact Or.inr ((⟨by omega, by omega, by omega, by omega, sf96, sf97⟩))⟩
    · have _q := h6
      exact absurd h6 (by omega)
set_option maxRecDepth 20000 in
set_option maxHeartbeats 4000000 in
theorem c_readIndexed_f {X : jX} {dd : Nat} {c0 c1 : jC} {G : Nat → Int} {A : Nat → Nat → Int} {T : jH} {n lv : Int} {fk : Int} (hd : 2 ≤ dd) (hW : Wk G A) (e_fk : G 16 = fk) (h_n : (-2147483648 : Int) ≤ n ∧ n ≤ 2147483647) (h_lv : (-2147483648 : Int) ≤ lv ∧ lv ≤ 2147483647) (p_0 : 1 ≤ fk) : wk X dd 298 [.ref 66, .int (i32 n), .int (i32 lv)] (rV c0 c1 G A T) (fun o V' => ∃ (r : Int), V' = rV c0 c1 G A T ∧ o = .inl (some (.int (i32 r))) ∧ ((-2147483648 : Int) ≤ r ∧ r ≤ 2147483647) ∧ (r = 0) ∧ True) := by
  obtain ⟨d, rfl⟩ : ∃ d, dd = d + 1 := ⟨dd - 1, by omega⟩
  refine wk_of (e := jm298) rfl (Nat.le_of_ble_eq_true rfl) ?_
  show wj X d jm298 (0, [(0, .ref 66), (1, .int (i32 (n))), (2, .int (i32 (lv)))], [], rV c0 c1 G A T) _
  have b_fk : (0 : Int) ≤ fk ∧ fk ≤ 6 := e_fk ▸ hW.1 16
  refine jx_ld (pc' := 1) (l' := [(0, .ref 66), (1, .int (i32 (n))), (2, .int (i32 (lv)))]) (st' := [.ref 66]) rfl (jl_aloadn rfl) ?_
  refine jx_vr (pc' := 4) (as := []) (st := []) rfl rfl rfl rfl ⟨rfl, rfl, Nat.le_of_ble_eq_true rfl⟩ rfl rfl (c_bad (dd := d) (hd := by omega) (hW := hW)  (fk := fk) (e_fk := show G 16 = fk from (e_fk))    ) (fun o V' hq => ?_)
  obtain ⟨r1, rfl, rfl, b2, q3⟩ := hq
  refine .inr ⟨_, rfl, ?_⟩
  rcases q3 with ⟨rfl, a4⟩ | ⟨rfl, a5⟩
  · have _q : True := trivial
    refine jx_if_eq (pc' := 7) (tg := 9) rfl rfl rfl (by decide) (by decide) (fun h6 => ?_) (fun h6 => ?_)
    · have _q := h6
      exact absurd h6 (by omega)
    · have _q := h6
      refine jx_ar (pc' := 8) (st' := [.int (i32 (0))]) rfl rfl rfl rfl ?_
      refine jx_rt (v := some (.int (i32 (0)))) rfl rfl rfl rfl rfl rfl ?_
      exact ⟨_, rfl, rfl, by omega, by omega, trivial⟩
  · have _q : True := trivial
    exfalso
    omega
