set_option maxRecDepth 20000 in
set_option maxHeartbeats 4000000 in
theorem c_readGuard {X : jX} {dd : Nat} {c0 c1 : jC} {G : Nat → Int} {A : Nat → Nat → Int} {T : jH} {ln le at0 fk op0 nd tk0 li : Int} (hd : 71 ≤ dd) (hW : Wk G A) (e_ln : G 9 = ln) (e_le : A 4 (ln).toNat = le) (e_at0 : G 10 = at0) (e_fk : G 16 = fk) (e_op0 : G 15 = op0) (e_nd : G 31 = nd) (e_tk0 : G 11 = tk0) (e_li : G 3 = li) (p_0 : 0 ≤ op0 ∧ op0 ≤ 8) (p_1 : fk = 0) (p_2 : nd ≤ 2 * at0 - tz tk0 + 42) (p_3 : at0 ≤ le) (p_4 : ln < li) : wk X dd 303 [.ref 66] (rV c0 c1 G A T) (fun o V' => ∃ (G' : Nat → Int) (A' : Nat → Nat → Int) (r : Int) (at2 : Int) (fk2 : Int) (nd2 : Int) (ln2 : Int), V' = rV c0 c1 G' A' T ∧ o = .inl (some (.int (i32 r))) ∧ Wk G' A' ∧ Fr [9, 10, 11, 12, 13, 14, 15, 16, 17, 18, 31] [15, 16, 17, 18, 19, 20, 21, 22, 24, 28] G A G' A' ∧ Pf nd A A' ∧ ((-2147483648 : Int) ≤ r ∧ r ≤ 2147483647) ∧ G' 10 = at2 ∧ G' 16 = fk2 ∧ G' 31 = nd2 ∧ G' 9 = ln2 ∧ (at0 ≤ at2) ∧ (at2 ≤ le) ∧ (nd ≤ nd2) ∧ (0 ≤ r) ∧ (r ≤ nd2) ∧ (((1 ≤ fk2) ∧ (ln2 = ln) ∧ (nd2 - nd ≤ 2 * at2 - 2 * at0 + 12)) ∨ ((fk2 = 0) ∧ (ln2 = ln + 1) ∧ (nd2 - nd ≤ 2 * at2 - (2 * at0 - tz tk0) + 0) ∧ (nd ≤ r) ∧ (r < nd2)))) := by
  obtain ⟨d, rfl⟩ : ∃ d, dd = d + 1 := ⟨dd - 1, by omega⟩
  refine wk_of (e := jm303) rfl (Nat.le_of_ble_eq_true rfl) ?_
  show wj X d jm303 (0, [(0, .ref 66)], [], rV c0 c1 G A T) _
  have hF0 : Fr [9, 10, 11, 12, 13, 14, 15, 16, 17, 18, 31] [15, 16, 17, 18, 19, 20, 21, 22, 24, 28] G A G A := Fr_rf
  have hP0 : Pf nd A A := Pf_rf
  have b_ln : (0 : Int) ≤ ln ∧ ln ≤ 3000 := e_ln ▸ hW.1 9
  have b_le : (0 : Int) ≤ le ∧ le ≤ 3000 := e_le ▸ hW.2 4 _
  have b_at0 : (0 : Int) ≤ at0 ∧ at0 ≤ 3002 := e_at0 ▸ hW.1 10
  have b_fk : (0 : Int) ≤ fk ∧ fk ≤ 6 := e_fk ▸ hW.1 16
  have b_op0 : (-2147483648 : Int) ≤ op0 ∧ op0 ≤ 2147483647 := e_op0 ▸ hW.1 15
  have b_nd : (0 : Int) ≤ nd ∧ nd ≤ 6999 := e_nd ▸ hW.1 31
  have z_tk0 := tz_f tk0
  have b_tk0 : (0 : Int) ≤ tk0 ∧ tk0 ≤ 5 := e_tk0 ▸ hW.1 11
  have b_li : (0 : Int) ≤ li ∧ li ≤ 3000 := e_li ▸ hW.1 3
  have at_293 : ∀ (L : jL) (Gx : Nat → Int) (Ax : Nat → Nat → Int) (one e at1 tk1 fk1 nd1 op1 : Int), jGet L 0 = some (.ref 66) → jGet L 1 = some (.int (i32 one)) → jGet L 2 = some (.int (i32 e)) → Wk Gx Ax → Fr [9, 10, 11, 12, 13, 14, 15, 16, 17, 18, 31] [15, 16, 17, 18, 19, 20, 21, 22, 24, 28] G A Gx Ax → Pf nd A Ax → Gx 10 = at1 → Gx 11 = tk1 → Gx 16 = fk1 → Gx 31 = nd1 → Gx 15 = op1 → Gx 9 = ln → ((-2147483648 : Int) ≤ one ∧ one ≤ 2147483647) → ((-2147483648 : Int) ≤ e ∧ e ≤ 2147483647) → (at0 ≤ at1) → (at1 ≤ le) → (nd ≤ nd1) → (op1 = op0) → (nd ≤ one ∧ one ≤ 6998 ∧ one < nd1) → (1 ≤ fk1 ∨ nd1 - nd ≤ (2 * at1 - tz tk1) - (2 * at0 - tz tk0) + 1) → (nd1 - nd ≤ (2 * at1 - tz tk1) - (2 * at0 - tz tk0) + 5) → wj X d jm303 (293, L, [], rV c0 c1 Gx Ax T) (fun o V' => ∃ (G' : Nat → Int) (A' : Nat → Nat → Int) (r : Int) (at2 : Int) (fk2 : Int) (nd2 : Int) (ln2 : Int), V' = rV c0 c1 G' A' T ∧ o = .inl (some (.int (i32 r))) ∧ Wk G' A' ∧ Fr [9, 10, 11, 12, 13, 14, 15, 16, 17, 18, 31] [15, 16, 17, 18, 19, 20, 21, 22, 24, 28] G A G' A' ∧ Pf nd A A' ∧ ((-2147483648 : Int) ≤ r ∧ r ≤ 2147483647) ∧ G' 10 = at2 ∧ G' 16 = fk2 ∧ G' 31 = nd2 ∧ G' 9 = ln2 ∧ (at0 ≤ at2) ∧ (at2 ≤ le) ∧ (nd ≤ nd2) ∧ (0 ≤ r) ∧ (r ≤ nd2) ∧ (((1 ≤ fk2) ∧ (ln2 = ln) ∧ (nd2 - nd ≤ 2 * at2 - 2 * at0 + 12)) ∨ ((fk2 = 0) ∧ (ln2 = ln + 1) ∧ (nd2 - nd ≤ 2 * at2 - (2 * at0 - tz tk0) + 0) ∧ (nd ≤ r) ∧ (r < nd2)))) := by
    intro L Gx Ax one e at1 tk1 fk1 nd1 op1 gL_0 gL_1 gL_2 hWx hFx hPx ex_at1 ex_tk1 ex_fk1 ex_nd1 ex_op1 fx_9 rx_one rx_e iv_0 iv_1 iv_2 iv_3 iv_4 iv_5 iv_6
    have b_at1 : (0 : Int) ≤ at1 ∧ at1 ≤ 3002 := ex_at1 ▸ hWx.1 10
    have z_tk1 := tz_f tk1
    have b_tk1 : (0 : Int) ≤ tk1 ∧ tk1 ≤ 5 := ex_tk1 ▸ hWx.1 11
    have b_fk1 : (0 : Int) ≤ fk1 ∧ fk1 ≤ 6 := ex_fk1 ▸ hWx.1 16
    have b_nd1 : (0 : Int) ≤ nd1 ∧ nd1 ≤ 6999 := ex_nd1 ▸ hWx.1 31
    have b_op1 : (-2147483648 : Int) ≤ op1 ∧ op1 ≤ 2147483647 := ex_op1 ▸ hWx.1 15
    refine jx_ld (pc' := 294) (l' := L) (st' := [.ref 66]) rfl (jl_aloadn gL_0) ?_
    refine jr_get (pc' := 297) (i := 34) (v := .ref 84) rfl rfl (by decide) rfl rfl ?_
    refine jx_ld (pc' := 298) (l' := L) (st' := [.int (i32 (one)), .ref 84]) rfl (jl_iloadn gL_1) ?_
    refine jx_ld (pc' := 299) (l' := L) (st' := [.int (i32 (e)), .int (i32 (one)), .ref 84]) rfl (jl_iloadn gL_2) ?_
    refine jr_st (pc' := 300) (i := 17) (m := 7000) (z := one) (y := e) rfl (by decide) rfl (by decide) (by omega) (by omega) rfl ?_
    have hW2 : Wk Gx (uA Ax 17 (one).toNat (e)) := Wk_a hWx (show (-2147483648 : Int) ≤ e by omega) (show e ≤ (2147483647 : Int) by omega)
    have hF3 := Fr_a (z := e) (k := 17) (n := (one).toNat) hFx (by decide)
    obtain ⟨A1, eA1⟩ : ∃ q, q = uA Ax 17 (one).toNat (e) := ⟨_, rfl⟩
    rw [← eA1]
    rw [← eA1] at hW2 hF3
    have q4 : A1 17 (one).toNat = e := by rw [eA1]; exact uA_eq
    have hP5 : Pf nd A A1 := eA1 ▸ Pf_a hPx (z := one) (by omega) (by omega)
    refine jx_ld (pc' := 301) (l' := L) (st' := [.ref 66]) rfl (jl_aloadn gL_0) ?_
    refine jx_ld (pc' := 302) (l' := L) (st' := [.ref 66, .ref 66]) rfl (jl_aloadn gL_0) ?_
    refine jx_ar (pc' := 304) (st' := [.int (i32 (38)), .ref 66, .ref 66]) rfl rfl rfl rfl ?_
    have b6 : (-2147483648 : Int) ≤ Gx 13 ∧ Gx 13 ≤ 2147483647 := hWx.1 13
    refine jx_vr (pc' := 307) (as := [.int (i32 (38))]) (st := [.ref 66]) rfl rfl rfl rfl ⟨rfl, rfl, Nat.le_of_ble_eq_true rfl⟩ rfl rfl (c_is (dd := d) (hd := by omega) (hW := hW2) (k := 38) (tk := tk1) (e_tk := show Gx 11 = tk1 from (ex_tk1)) (tn := Gx 13) (e_tn := show Gx 13 = Gx 13 from rfl)  (h_k := ⟨(by decide), (by decide)⟩)  ) (fun o V' hq => ?_)
    obtain ⟨r7, rfl, rfl, b8, q9⟩ := hq
    refine .inr ⟨_, rfl, ?_⟩
    rcases q9 with ⟨rfl, a10, a11, a12⟩ | rfl
    · have _q : True := trivial
      refine jx_vr (pc' := 310) (as := [.int (i32 (1))]) (st := []) rfl rfl rfl rfl ⟨rfl, rfl, Nat.le_of_ble_eq_true rfl⟩ rfl rfl (c_need (dd := d) (hd := by omega) (hW := hW2) (g := 1) (ln := ln) (e_ln := show Gx 9 = ln from (fx_9)) (le := le) (e_le := show A1 4 (ln).toNat = le from (congrFun (((congrFun eA1 4).trans (uA_ne (by decide))).trans (hFx.2 4 rfl)) _).trans (e_le)) (at0 := at1) (e_at0 := show Gx 10 = at1 from (ex_at1)) (fk := fk1) (e_fk := show Gx 16 = fk1 from (ex_fk1)) (tk0 := tk1) (e_tk0 := show Gx 11 = tk1 from (ex_tk1))  (h_g := ⟨(by decide), (by decide)⟩)  (p_0 := by omega)) (fun o V' hq => ?_)
      obtain ⟨G13, A14, at2_15, tk2_16, fk2_17, rfl, rfl, hW18, hF19, e20, e21, e22, p23, p24, q25⟩ := hq
      have hF26 := Fr_tr hF3 hF19 (Fr_sub (by decide)) (Fr_sub (by decide))
      have hP27 := Pf_f hP5 hF19 (by decide)
      have bat2_15 : (0 : Int) ≤ at2_15 ∧ at2_15 ≤ 3002 := e20 ▸ hW18.1 10
      have ztk2_16 := tz_b tk2_16
      have btk2_16 : (0 : Int) ≤ tk2_16 ∧ tk2_16 ≤ 5 := e21 ▸ hW18.1 11
      have bfk2_17 : (0 : Int) ≤ fk2_17 ∧ fk2_17 ≤ 6 := e22 ▸ hW18.1 16
      refine .inl ⟨rfl, ?_⟩
      rcases q25 with ⟨a28, a29, a30, a31⟩ | ⟨a32, a33, a34, a35⟩
      · have _q : True := trivial
        refine jx_ld (pc' := 311) (l' := L) (st' := [.ref 66]) rfl (jl_aloadn gL_0) ?_
        refine jx_ar (pc' := 313) (st' := [.int (i32 (7)), .ref 66]) rfl rfl rfl rfl ?_
        have b36 : (-2147483648 : Int) ≤ G13 13 ∧ G13 13 ≤ 2147483647 := hW18.1 13
        refine jx_vr (pc' := 316) (as := [.int (i32 (7))]) (st := []) rfl rfl rfl rfl ⟨rfl, rfl, Nat.le_of_ble_eq_true rfl⟩ rfl rfl (c_isKey (dd := d) (hd := by omega) (hW := hW18) (k := 7) (tk := tk2_16) (e_tk := show G13 11 = tk2_16 from (e21)) (tn := G13 13) (e_tn := show G13 13 = G13 13 from rfl)  (h_k := ⟨(by decide), (by decide)⟩)  ) (fun o V' hq => ?_)
        obtain ⟨r37, rfl, rfl, b38, q39⟩ := hq
        refine .inr ⟨_, rfl, ?_⟩
        rcases q39 with ⟨rfl, a40, a41, a42⟩ | rfl
        · have _q : True := trivial
          refine jx_if_eq (pc' := 319) (tg := 327) rfl rfl rfl (by decide) (by decide) (fun h43 => ?_) (fun h43 => ?_)
          · have _q := h43
            exact absurd h43 (by omega)
          · have _q := h43
            refine jx_ld (pc' := 320) (l' := L) (st' := [.ref 66]) rfl (jl_aloadn gL_0) ?_
            refine jx_ar (pc' := 321) (st' := [.int (i32 (1)), .ref 66]) rfl rfl rfl rfl ?_
            refine jx_vr (pc' := 324) (as := [.int (i32 (1))]) (st := []) rfl rfl rfl rfl ⟨rfl, rfl, Nat.le_of_ble_eq_true rfl⟩ rfl rfl (c_need (dd := d) (hd := by omega) (hW := hW18) (g := 1) (ln := ln) (e_ln := show G13 9 = ln from ((hF19.1 9 rfl).trans (fx_9))) (le := le) (e_le := show A14 4 (ln).toNat = le from (congrFun ((hF19.2 4 rfl).trans (((congrFun eA1 4).trans (uA_ne (by decide))).trans (hFx.2 4 rfl))) _).trans (e_le)) (at0 := at2_15) (e_at0 := show G13 10 = at2_15 from (e20)) (fk := fk2_17) (e_fk := show G13 16 = fk2_17 from (e22)) (tk0 := tk2_16) (e_tk0 := show G13 11 = tk2_16 from (e21))  (h_g := ⟨(by decide), (by decide)⟩)  (p_0 := by omega)) (fun o V' hq => ?_)
            obtain ⟨G44, A45, at2_46, tk2_47, fk2_48, rfl, rfl, hW49, hF50, e51, e52, e53, p54, p55, q56⟩ := hq
            have hF57 := Fr_tr hF26 hF50 (Fr_sub (by decide)) (Fr_sub (by decide))
            have hP58 := Pf_f hP27 hF50 (by decide)
            have bat2_46 : (0 : Int) ≤ at2_46 ∧ at2_46 ≤ 3002 := e51 ▸ hW49.1 10
            have ztk2_47 := tz_b tk2_47
            have btk2_47 : (0 : Int) ≤ tk2_47 ∧ tk2_47 ≤ 5 := e52 ▸ hW49.1 11
            have bfk2_48 : (0 : Int) ≤ fk2_48 ∧ fk2_48 ≤ 6 := e53 ▸ hW49.1 16
            refine .inl ⟨rfl, ?_⟩
            rcases q56 with ⟨a59, a60, a61, a62⟩ | ⟨a63, a64, a65, a66⟩
            · have _q : True := trivial
              refine jx_go (tg := 359) rfl rfl ?_
              refine jx_ld (pc' := 360) (l' := L) (st' := [.ref 66]) rfl (jl_aloadn gL_0) ?_
              refine jx_vr (pc' := 363) (as := []) (st := []) rfl rfl rfl rfl ⟨rfl, rfl, Nat.le_of_ble_eq_true rfl⟩ rfl rfl (c_endLine (dd := d) (hd := by omega) (hW := hW49)  (ln := ln) (e_ln := show G44 9 = ln from ((hF50.1 9 rfl).trans ((hF19.1 9 rfl).trans (fx_9)))) (li := li) (e_li := show G44 3 = li from ((hF50.1 3 rfl).trans ((hF19.1 3 rfl).trans ((hFx.1 3 rfl).trans (e_li))))) (fk := fk2_48) (e_fk := show G44 16 = fk2_48 from (e53)) (tk0 := tk2_47) (e_tk0 := show G44 11 = tk2_47 from (e52))    (p_0 := by omega)) (fun o V' hq => ?_)
              obtain ⟨G67, A68, ln2_69, fk2_70, rfl, rfl, hW71, hF72, e73, e74, q75⟩ := hq
              have hF76 := Fr_tr hF57 hF72 (Fr_sub (by decide)) (Fr_sub (by decide))
              have hP77 := Pf_f hP58 hF72 (by decide)
              have bln2_69 : (0 : Int) ≤ ln2_69 ∧ ln2_69 ≤ 3000 := e73 ▸ hW71.1 9
              have bfk2_70 : (0 : Int) ≤ fk2_70 ∧ fk2_70 ≤ 6 := e74 ▸ hW71.1 16
              refine .inl ⟨rfl, ?_⟩
              rcases q75 with ⟨a78, a79, a80, a81, a82⟩ | ⟨a83, a84⟩
              · have _q : True := trivial
                exfalso
                omega
              · have _q : True := trivial
                refine jx_ld (pc' := 364) (l' := L) (st' := [.int (i32 (one))]) rfl (jl_iloadn gL_1) ?_
                refine jx_rt (v := some (.int (i32 (one)))) rfl rfl rfl rfl rfl rfl ?_
                exact ⟨_, _, _, at2_46, fk2_70, nd1, ln2_69, rfl, rfl, hW71, hF76, hP77, by omega, ((hF72.1 10 rfl).trans (e51)), (e74), ((hF72.1 31 rfl).trans ((hF50.1 31 rfl).trans ((hF19.1 31 rfl).trans (ex_nd1)))), (e73), by omega, by omega, by omega, by omega, by omega, by first | exact Or.inl (⟨by omega, by omega, by omega⟩) | exact Or.inr ((⟨by omega, by omega, by omega, by omega, by omega⟩))⟩
            · have _q : True := trivial
              exfalso
              omega
        · have _q : True := trivial
          refine jx_if_eq (pc' := 319) (tg := 327) rfl rfl rfl (by decide) (by decide) (fun h85 => ?_) (fun h85 => ?_)
          · have _q := h85
            refine jx_ld (pc' := 328) (l' := L) (st' := [.ref 66]) rfl (jl_aloadn gL_0) ?_
            refine jr_get (pc' := 331) (i := 35) (v := .ref 85) rfl rfl (by decide) rfl rfl ?_
            refine jx_ld (pc' := 332) (l' := L) (st' := [.int (i32 (one)), .ref 85]) rfl (jl_iloadn gL_1) ?_
            refine jx_ld (pc' := 333) (l' := L) (st' := [.ref 66, .int (i32 (one)), .ref 85]) rfl (jl_aloadn gL_0) ?_
            refine jx_ar (pc' := 334) (st' := [.int (i32 (1)), .ref 66, .int (i32 (one)), .ref 85]) rfl rfl rfl rfl ?_
            refine jx_vr (pc' := 337) (as := [.int (i32 (1))]) (st := [.int (i32 (one)), .ref 85]) rfl rfl rfl rfl ⟨rfl, rfl, Nat.le_of_ble_eq_true rfl⟩ rfl rfl (c_readReference (dd := d) (hd := by omega) (hW := hW18) (ch := 1) (ln := ln) (e_ln := show G13 9 = ln from ((hF19.1 9 rfl).trans (fx_9))) (le := le) (e_le := show A14 4 (ln).toNat = le from (congrFun ((hF19.2 4 rfl).trans (((congrFun eA1 4).trans (uA_ne (by decide))).trans (hFx.2 4 rfl))) _).trans (e_le)) (at0 := at2_15) (e_at0 := show G13 10 = at2_15 from (e20)) (fk := fk2_17) (e_fk := show G13 16 = fk2_17 from (e22)) (op0 := op1) (e_op0 := show G13 15 = op1 from ((hF19.1 15 rfl).trans (ex_op1))) (nd := nd1) (e_nd := show G13 31 = nd1 from ((hF19.1 31 rfl).trans (ex_nd1))) (tk0 := tk2_16) (e_tk0 := show G13 11 = tk2_16 from (e21))  (h_ch := ⟨(by decide), (by decide)⟩)  (p_0 := by omega) (p_1 := by omega) (p_2 := by omega) (p_3 := by omega) (p_4 := by omega)) (fun o V' hq => ?_)
            obtain ⟨G86, A87, r88, at2_89, fk2_90, op2_91, nd2_92, tk2_93, rfl, rfl, hW94, hF95, hQ96, b97, e98, e99, e100, e101, e102, p103, p104, p105, p106, p107, p108, q109⟩ := hq
            have hF110 := Fr_tr hF26 hF95 (Fr_sub (by decide)) (Fr_sub (by decide))
            have k111 : A87 17 (one).toNat = e := (hQ96 17 _ rfl (by omega)).trans (show A14 17 (one).toNat = e from (congrFun (hF19.2 17 rfl) _).trans (q4))
            have hP112 := Pf_tr hP27 hQ96 (by omega)
            have bat2_89 : (0 : Int) ≤ at2_89 ∧ at2_89 ≤ 3002 := e98 ▸ hW94.1 10
            have bfk2_90 : (0 : Int) ≤ fk2_90 ∧ fk2_90 ≤ 6 := e99 ▸ hW94.1 16
            have bop2_91 : (-2147483648 : Int) ≤ op2_91 ∧ op2_91 ≤ 2147483647 := e100 ▸ hW94.1 15
            have bnd2_92 : (0 : Int) ≤ nd2_92 ∧ nd2_92 ≤ 6999 := e101 ▸ hW94.1 31
            have ztk2_93 := tz_b tk2_93
            have btk2_93 : (0 : Int) ≤ tk2_93 ∧ tk2_93 ≤ 5 := e102 ▸ hW94.1 11
            refine .inr ⟨_, rfl, ?_⟩
            rcases q109 with ⟨a113, a114, a115, a116, a117, a118⟩ | ⟨a119, a120, a121⟩ | ⟨a122, a123, a124⟩
            · have _q : True := trivial
              refine jr_st (pc' := 338) (i := 18) (m := 7000) (z := one) (y := r88) rfl (by decide) rfl (by decide) (by omega) (by omega) rfl ?_
              have hW126 : Wk G86 (uA A87 18 (one).toNat (r88)) := Wk_a hW94 (show (-2147483648 : Int) ≤ r88 by omega) (show r88 ≤ (2147483647 : Int) by omega)
              have hF127 := Fr_a (z := r88) (k := 18) (n := (one).toNat) hF110 (by decide)
              obtain ⟨A125, eA125⟩ : ∃ q, q = uA A87 18 (one).toNat (r88) := ⟨_, rfl⟩
              rw [← eA125]
              rw [← eA125] at hW126 hF127
              have q128 : A125 18 (one).toNat = r88 := by rw [eA125]; exact uA_eq
              have hP129 : Pf nd A A125 := eA125 ▸ Pf_a hP112 (z := one) (by omega) (by omega)
              refine jx_ld (pc' := 339) (l' := L) (st' := [.ref 66]) rfl (jl_aloadn gL_0) ?_
              refine jx_ld (pc' := 340) (l' := L) (st' := [.ref 66, .ref 66]) rfl (jl_aloadn gL_0) ?_
              refine jx_ar (pc' := 342) (st' := [.int (i32 (63)), .ref 66, .ref 66]) rfl rfl rfl rfl ?_
              have b130 : (-2147483648 : Int) ≤ G86 13 ∧ G86 13 ≤ 2147483647 := hW94.1 13
              refine jx_vr (pc' := 345) (as := [.int (i32 (63))]) (st := [.ref 66]) rfl rfl rfl rfl ⟨rfl, rfl, Nat.le_of_ble_eq_true rfl⟩ rfl rfl (c_is (dd := d) (hd := by omega) (hW := hW126) (k := 63) (tk := tk2_93) (e_tk := show G86 11 = tk2_93 from (e102)) (tn := G86 13) (e_tn := show G86 13 = G86 13 from rfl)  (h_k := ⟨(by decide), (by decide)⟩)  ) (fun o V' hq => ?_)
              obtain ⟨r131, rfl, rfl, b132, q133⟩ := hq
              refine .inr ⟨_, rfl, ?_⟩
              rcases q133 with ⟨rfl, a134, a135, a136⟩ | rfl
              · have _q : True := trivial
                refine jx_vr (pc' := 348) (as := [.int (i32 (1))]) (st := []) rfl rfl rfl rfl ⟨rfl, rfl, Nat.le_of_ble_eq_true rfl⟩ rfl rfl (c_need (dd := d) (hd := by omega) (hW := hW126) (g := 1) (ln := ln) (e_ln := show G86 9 = ln from ((hF95.1 9 rfl).trans ((hF19.1 9 rfl).trans (fx_9)))) (le := le) (e_le := show A125 4 (ln).toNat = le from (congrFun (((congrFun eA125 4).trans (uA_ne (by decide))).trans ((hF95.2 4 rfl).trans ((hF19.2 4 rfl).trans (((congrFun eA1 4).trans (uA_ne (by decide))).trans (hFx.2 4 rfl))))) _).trans (e_le)) (at0 := at2_89) (e_at0 := show G86 10 = at2_89 from (e98)) (fk := fk2_90) (e_fk := show G86 16 = fk2_90 from (e99)) (tk0 := tk2_93) (e_tk0 := show G86 11 = tk2_93 from (e102))  (h_g := ⟨(by decide), (by decide)⟩)  (p_0 := by omega)) (fun o V' hq => ?_)
                obtain ⟨G137, A138, at2_139, tk2_140, fk2_141, rfl, rfl, hW142, hF143, e144, e145, e146, p147, p148, q149⟩ := hq
                have hF150 := Fr_tr hF127 hF143 (Fr_sub (by decide)) (Fr_sub (by decide))
                have hP151 := Pf_f hP129 hF143 (by decide)
                have bat2_139 : (0 : Int) ≤ at2_139 ∧ at2_139 ≤ 3002 := e144 ▸ hW142.1 10
                have ztk2_140 := tz_b tk2_140
                have btk2_140 : (0 : Int) ≤ tk2_140 ∧ tk2_140 ≤ 5 := e145 ▸ hW142.1 11
                have bfk2_141 : (0 : Int) ≤ fk2_141 ∧ fk2_141 ≤ 6 := e146 ▸ hW142.1 16
                refine .inl ⟨rfl, ?_⟩
                rcases q149 with ⟨a152, a153, a154, a155⟩ | ⟨a156, a157, a158, a159⟩
                · have _q : True := trivial
                  refine jx_ld (pc' := 349) (l' := L) (st' := [.ref 66]) rfl (jl_aloadn gL_0) ?_
                  refine jr_get (pc' := 352) (i := 36) (v := .ref 86) rfl rfl (by decide) rfl rfl ?_
                  refine jx_ld (pc' := 353) (l' := L) (st' := [.int (i32 (one)), .ref 86]) rfl (jl_iloadn gL_1) ?_
                  refine jx_ld (pc' := 354) (l' := L) (st' := [.ref 66, .int (i32 (one)), .ref 86]) rfl (jl_aloadn gL_0) ?_
                  refine jx_ar (pc' := 355) (st' := [.int (i32 (0)), .ref 66, .int (i32 (one)), .ref 86]) rfl rfl rfl rfl ?_
                  refine jx_vr (pc' := 358) (as := [.int (i32 (0))]) (st := [.int (i32 (one)), .ref 86]) rfl rfl rfl rfl ⟨rfl, rfl, Nat.le_of_ble_eq_true rfl⟩ rfl rfl (c_readReference (dd := d) (hd := by omega) (hW := hW142) (ch := 0) (ln := ln) (e_ln := show G137 9 = ln from ((hF143.1 9 rfl).trans ((hF95.1 9 rfl).trans ((hF19.1 9 rfl).trans (fx_9))))) (le := le) (e_le := show A138 4 (ln).toNat = le from (congrFun ((hF143.2 4 rfl).trans (((congrFun eA125 4).trans (uA_ne (by decide))).trans ((hF95.2 4 rfl).trans ((hF19.2 4 rfl).trans (((congrFun eA1 4).trans (uA_ne (by decide))).trans (hFx.2 4 rfl)))))) _).trans (e_le)) (at0 := at2_139) (e_at0 := show G137 10 = at2_139 from (e144)) (fk := fk2_141) (e_fk := show G137 16 = fk2_141 from (e146)) (op0 := op2_91) (e_op0 := show G137 15 = op2_91 from ((hF143.1 15 rfl).trans (e100))) (nd := nd2_92) (e_nd := show G137 31 = nd2_92 from ((hF143.1 31 rfl).trans (e101))) (tk0 := tk2_140) (e_tk0 := show G137 11 = tk2_140 from (e145))  (h_ch := ⟨(by decide), (by decide)⟩)  (p_0 := by omega) (p_1 := by omega) (p_2 := by omega) (p_3 := by omega) (p_4 := by omega)) (fun o V' hq => ?_)
                  obtain ⟨G160, A161, r162, at2_163, fk2_164, op2_165, nd2_166, tk2_167, rfl, rfl, hW168, hF169, hQ170, b171, e172, e173, e174, e175, e176, p177, p178, p179, p180, p181, p182, q183⟩ := hq
                  have hF184 := Fr_tr hF150 hF169 (Fr_sub (by decide)) (Fr_sub (by decide))
                  have k185 : A161 17 (one).toNat = e := (hQ170 17 _ rfl (by omega)).trans (show A138 17 (one).toNat = e from (congrFun ((hF143.2 17 rfl).trans ((congrFun eA125 17).trans (uA_ne (by decide)))) _).trans (k111))
                  have k186 : A161 18 (one).toNat = r88 := (hQ170 18 _ rfl (by omega)).trans (show A138 18 (one).toNat = r88 from (congrFun (hF143.2 18 rfl) _).trans (q128))
                  have hP187 := Pf_tr hP151 hQ170 (by omega)
                  have bat2_163 : (0 : Int) ≤ at2_163 ∧ at2_163 ≤ 3002 := e172 ▸ hW168.1 10
                  have bfk2_164 : (0 : Int) ≤ fk2_164 ∧ fk2_164 ≤ 6 := e173 ▸ hW168.1 16
                  have bop2_165 : (-2147483648 : Int) ≤ op2_165 ∧ op2_165 ≤ 2147483647 := e174 ▸ hW168.1 15
                  have bnd2_166 : (0 : Int) ≤ nd2_166 ∧ nd2_166 ≤ 6999 := e175 ▸ hW168.1 31
                  have ztk2_167 := tz_b tk2_167
                  have btk2_167 : (0 : Int) ≤ tk2_167 ∧ tk2_167 ≤ 5 := e176 ▸ hW168.1 11
                  refine .inr ⟨_, rfl, ?_⟩
                  rcases q183 with ⟨a188, a189, a190, a191, a192, a193⟩ | ⟨a194, a195, a196⟩ | ⟨a197, a198, a199⟩
                  · have _q : True := trivial
                    refine jr_st (pc' := 359) (i := 19) (m := 7000) (z := one) (y := r162) rfl (by decide) rfl (by decide) (by omega) (by omega) rfl ?_
                    have hW201 : Wk G160 (uA A161 19 (one).toNat (r162)) := Wk_a hW168 (show (-2147483648 : Int) ≤ r162 by omega) (show r162 ≤ (2147483647 : Int) by omega)
                    have hF202 := Fr_a (z := r162) (k := 19) (n := (one).toNat) hF184 (by decide)
                    obtain ⟨A200, eA200⟩ : ∃ q, q = uA A161 19 (one).toNat (r162) := ⟨_, rfl⟩
                    rw [← eA200]
                    rw [← eA200] at hW201 hF202
                    have q203 : A200 19 (one).toNat = r162 := by rw [eA200]; exact uA_eq
                    have hP204 : Pf nd A A200 := eA200 ▸ Pf_a hP187 (z := one) (by omega) (by omega)
                    refine jx_ld (pc' := 360) (l' := L) (st' := [.ref 66]) rfl (jl_aloadn gL_0) ?_
                    refine jx_vr (pc' := 363) (as := []) (st := []) rfl rfl rfl rfl ⟨rfl, rfl, Nat.le_of_ble_eq_true rfl⟩ rfl rfl (c_endLine (dd := d) (hd := by omega) (hW := hW201)  (ln := ln) (e_ln := show G160 9 = ln from ((hF169.1 9 rfl).trans ((hF143.1 9 rfl).trans ((hF95.1 9 rfl).trans ((hF19.1 9 rfl).trans (fx_9)))))) (li := li) (e_li := show G160 3 = li from ((hF169.1 3 rfl).trans ((hF143.1 3 rfl).trans ((hF95.1 3 rfl).trans ((hF19.1 3 rfl).trans ((hFx.1 3 rfl).trans (e_li))))))) (fk := fk2_164) (e_fk := show G160 16 = fk2_164 from (e173)) (tk0 := tk2_167) (e_tk0 := show G160 11 = tk2_167 from (e176))    (p_0 := by omega)) (fun o V' hq => ?_)
                    obtain ⟨G205, A206, ln2_207, fk2_208, rfl, rfl, hW209, hF210, e211, e212, q213⟩ := hq
                    have hF214 := Fr_tr hF202 hF210 (Fr_sub (by decide)) (Fr_sub (by decide))
                    have hP215 := Pf_f hP204 hF210 (by decide)
                    have bln2_207 : (0 : Int) ≤ ln2_207 ∧ ln2_207 ≤ 3000 := e211 ▸ hW209.1 9
                    have bfk2_208 : (0 : Int) ≤ fk2_208 ∧ fk2_208 ≤ 6 := e212 ▸ hW209.1 16
                    refine .inl ⟨rfl, ?_⟩
                    rcases q213 with ⟨a216, a217, a218, a219, a220⟩ | ⟨a221, a222⟩
                    · have _q : True := trivial
                      exfalso
                      omega
                    · have _q : True := trivial
                      refine jx_ld (pc' := 364) (l' := L) (st' := [.int (i32 (one))]) rfl (jl_iloadn gL_1) ?_
                      refine jx_rt (v := some (.int (i32 (one)))) rfl rfl rfl rfl rfl rfl ?_
                      exact ⟨_, _, _, at2_163, fk2_208, nd2_166, ln2_207, rfl, rfl, hW209, hF214, hP215, by omega, ((hF210.1 10 rfl).trans (e172)), (e212), ((hF210.1 31 rfl).trans (e175)), (e211), by omega, by omega, by omega, by omega, by omega, by first | exact Or.inl (⟨by omega, by omega, by omega⟩) | exact Or.inr ((⟨by omega, by omega, by omega, by omega, by omega⟩))⟩
                  · have _q : True := trivial
                    exfalso
                    omega
                  · have _q : True := trivial
                    exfalso
                    omega
                · have _q : True := trivial
                  exfalso
                  omega
              · have _q : True := trivial
                refine jx_vr (pc' := 348) (as := [.int (i32 (0))]) (st := []) rfl rfl rfl rfl ⟨rfl, rfl, Nat.le_of_ble_eq_true rfl⟩ rfl rfl (c_need (dd := d) (hd := by omega) (hW := hW126) (g := 0) (ln := ln) (e_ln := show G86 9 = ln from ((hF95.1 9 rfl).trans ((hF19.1 9 rfl).trans (fx_9)))) (le := le) (e_le := show A125 4 (ln).toNat = le from (congrFun (((congrFun eA125 4).trans (uA_ne (by decide))).trans ((hF95.2 4 rfl).trans ((hF19.2 4 rfl).trans (((congrFun eA1 4).trans (uA_ne (by decide))).trans (hFx.2 4 rfl))))) _).trans (e_le)) (at0 := at2_89) (e_at0 := show G86 10 = at2_89 from (e98)) (fk := fk2_90) (e_fk := show G86 16 = fk2_90 from (e99)) (tk0 := tk2_93) (e_tk0 := show G86 11 = tk2_93 from (e102))  (h_g := ⟨(by decide), (by decide)⟩)  (p_0 := by omega)) (fun o V' hq => ?_)
                obtain ⟨G223, A224, at2_225, tk2_226, fk2_227, rfl, rfl, hW228, hF229, e230, e231, e232, p233, p234, q235⟩ := hq
                have hF236 := Fr_tr hF127 hF229 (Fr_sub (by decide)) (Fr_sub (by decide))
                have hP237 := Pf_f hP129 hF229 (by decide)
                have bat2_225 : (0 : Int) ≤ at2_225 ∧ at2_225 ≤ 3002 := e230 ▸ hW228.1 10
                have ztk2_226 := tz_b tk2_226
                have btk2_226 : (0 : Int) ≤ tk2_226 ∧ tk2_226 ≤ 5 := e231 ▸ hW228.1 11
                have bfk2_227 : (0 : Int) ≤ fk2_227 ∧ fk2_227 ≤ 6 := e232 ▸ hW228.1 16
                refine .inl ⟨rfl, ?_⟩
                rcases q235 with ⟨a238, a239, a240, a241⟩ | ⟨a242, a243, a244, a245⟩
                · have _q : True := trivial
                  refine jx_ld (pc' := 349) (l' := L) (st' := [.ref 66]) rfl (jl_aloadn gL_0) ?_
                  refine jr_get (pc' := 352) (i := 36) (v := .ref 86) rfl rfl (by decide) rfl rfl ?_
                  refine jx_ld (pc' := 353) (l' := L) (st' := [.int (i32 (one)), .ref 86]) rfl (jl_iloadn gL_1) ?_
                  refine jx_ld (pc' := 354) (l' := L) (st' := [.ref 66, .int (i32 (one)), .ref 86]) rfl (jl_aloadn gL_0) ?_
                  refine jx_ar (pc' := 355) (st' := [.int (i32 (0)), .ref 66, .int (i32 (one)), .ref 86]) rfl rfl rfl rfl ?_
                  refine jx_vr (pc' := 358) (as := [.int (i32 (0))]) (st := [.int (i32 (one)), .ref 86]) rfl rfl rfl rfl ⟨rfl, rfl, Nat.le_of_ble_eq_true rfl⟩ rfl rfl (c_readReference (dd := d) (hd := by omega) (hW := hW228) (ch := 0) (ln := ln) (e_ln := show G223 9 = ln from ((hF229.1 9 rfl).trans ((hF95.1 9 rfl).trans ((hF19.1 9 rfl).trans (fx_9))))) (le := le) (e_le := show A224 4 (ln).toNat = le from (congrFun ((hF229.2 4 rfl).trans (((congrFun eA125 4).trans (uA_ne (by decide))).trans ((hF95.2 4 rfl).trans ((hF19.2 4 rfl).trans (((congrFun eA1 4).trans (uA_ne (by decide))).trans (hFx.2 4 rfl)))))) _).trans (e_le)) (at0 := at2_225) (e_at0 := show G223 10 = at2_225 from (e230)) (fk := fk2_227) (e_fk := show G223 16 = fk2_227 from (e232)) (op0 := op2_91) (e_op0 := show G223 15 = op2_91 from ((hF229.1 15 rfl).trans (e100))) (nd := nd2_92) (e_nd := show G223 31 = nd2_92 from ((hF229.1 31 rfl).trans (e101))) (tk0 := tk2_226) (e_tk0 := show G223 11 = tk2_226 from (e231))  (h_ch := ⟨(by decide), (by decide)⟩)  (p_0 := by omega) (p_1 := by omega) (p_2 := by omega) (p_3 := by omega) (p_4 := by omega)) (fun o V' hq => ?_)
                  obtain ⟨G246, A247, r248, at2_249, fk2_250, op2_251, nd2_252, tk2_253, rfl, rfl, hW254, hF255, hQ256, b257, e258, e259, e260, e261, e262, p263, p264, p265, p266, p267, p268, q269⟩ := hq
                  have hF270 := Fr_tr hF236 hF255 (Fr_sub (by decide)) (Fr_sub (by decide))
                  have k271 : A247 17 (one).toNat = e := (hQ256 17 _ rfl (by omega)).trans (show A224 17 (one).toNat = e from (congrFun ((hF229.2 17 rfl).trans ((congrFun eA125 17).trans (uA_ne (by decide)))) _).trans (k111))
                  have k272 : A247 18 (one).toNat = r88 := (hQ256 18 _ rfl (by omega)).trans (show A224 18 (one).toNat = r88 from (congrFun (hF229.2 18 rfl) _).trans (q128))
                  have hP273 := Pf_tr hP237 hQ256 (by omega)
                  have bat2_249 : (0 : Int) ≤ at2_249 ∧ at2_249 ≤ 3002 := e258 ▸ hW254.1 10
                  have bfk2_250 : (0 : Int) ≤ fk2_250 ∧ fk2_250 ≤ 6 := e259 ▸ hW254.1 16
                  have bop2_251 : (-2147483648 : Int) ≤ op2_251 ∧ op2_251 ≤ 2147483647 := e260 ▸ hW254.1 15
                  have bnd2_252 : (0 : Int) ≤ nd2_252 ∧ nd2_252 ≤ 6999 := e261 ▸ hW254.1 31
                  have ztk2_253 := tz_b tk2_253
                  have btk2_253 : (0 : Int) ≤ tk2_253 ∧ tk2_253 ≤ 5 := e262 ▸ hW254.1 11
                  refine .inr ⟨_, rfl, ?_⟩
                  rcases q269 with ⟨a274, a275, a276, a277, a278, a279⟩ | ⟨a280, a281, a282⟩ | ⟨a283, a284, a285⟩
                  · have _q : True := trivial
                    refine jr_st (pc' := 359) (i := 19) (m := 7000) (z := one) (y := r248) rfl (by decide) rfl (by decide) (by omega) (by omega) rfl ?_
                    have hW287 : Wk G246 (uA A247 19 (one).toNat (r248)) := Wk_a hW254 (show (-2147483648 : Int) ≤ r248 by omega) (show r248 ≤ (2147483647 : Int) by omega)
                    have hF288 := Fr_a (z := r248) (k := 19) (n := (one).toNat) hF270 (by decide)
                    obtain ⟨A286, eA286⟩ : ∃ q, q = uA A247 19 (one).toNat (r248) := ⟨_, rfl⟩
                    rw [← eA286]
                    rw [← eA286] at hW287 hF288
                    have q289 : A286 19 (one).toNat = r248 := by rw [eA286]; exact uA_eq
                    have hP290 : Pf nd A A286 := eA286 ▸ Pf_a hP273 (z := one) (by omega) (by omega)
                    refine jx_ld (pc' := 360) (l' := L) (st' := [.ref 66]) rfl (jl_aloadn gL_0) ?_
                    refine jx_vr (pc' := 363) (as := []) (st := []) rfl rfl rfl rfl ⟨rfl, rfl, Nat.le_of_ble_eq_true rfl⟩ rfl rfl (c_endLine (dd := d) (hd := by omega) (hW := hW287)  (ln := ln) (e_ln := show G246 9 = ln from ((hF255.1 9 rfl).trans ((hF229.1 9 rfl).trans ((hF95.1 9 rfl).trans ((hF19.1 9 rfl).trans (fx_9)))))) (li := li) (e_li := show G246 3 = li from ((hF255.1 3 rfl).trans ((hF229.1 3 rfl).trans ((hF95.1 3 rfl).trans ((hF19.1 3 rfl).trans ((hFx.1 3 rfl).trans (e_li))))))) (fk := fk2_250) (e_fk := show G246 16 = fk2_250 from (e259)) (tk0 := tk2_253) (e_tk0 := show G246 11 = tk2_253 from (e262))    (p_0 := by omega)) (fun o V' hq => ?_)
                    obtain ⟨G291, A292, ln2_293, fk2_294, rfl, rfl, hW295, hF296, e297, e298, q299⟩ := hq
                    have hF300 := Fr_tr hF288 hF296 (Fr_sub (by decide)) (Fr_sub (by decide))
                    have hP301 := Pf_f hP290 hF296 (by decide)
                    have bln2_293 : (0 : Int) ≤ ln2_293 ∧ ln2_293 ≤ 3000 := e297 ▸ hW295.1 9
                    have bfk2_294 : (0 : Int) ≤ fk2_294 ∧ fk2_294 ≤ 6 := e298 ▸ hW295.1 16
                    refine .inl ⟨rfl, ?_⟩
                    rcases q299 with ⟨a302, a303, a304, a305, a306⟩ | ⟨a307, a308⟩
                    · have _q : True := trivial
                      exfalso
                      omega
                    · have _q : True := trivial
                      refine jx_ld (pc' := 364) (l' := L) (st' := [.int (i32 (one))]) rfl (jl_iloadn gL_1) ?_
                      refine jx_rt (v := some (.int (i32 (one)))) rfl rfl rfl rfl rfl rfl ?_
                      exact ⟨_, _, _, at2_249, fk2_294, nd2_252, ln2_293, rfl, rfl, hW295, hF300, hP301, by omega, ((hF296.1 10 rfl).trans (e258)), (e298), ((hF296.1 31 rfl).trans (e261)), (e297), by omega, by omega, by omega, by omega, by omega, by first | exact Or.inl (⟨by omega, by omega, by omega⟩) | exact Or.inr ((⟨by omega, by omega, by omega, by omega, by omega⟩))⟩
                  · have _q : True := trivial
                    exfalso
                    omega
                  · have _q : True := trivial
                    exfalso
                    omega
                · have _q : True := trivial
                  exfalso
                  omega
            · have _q : True := trivial
              exfalso
              omega
            · have _q : True := trivial
              exfalso
              omega
          · have _q := h85
            exact absurd h85 (by omega)
      · have _q : True := trivial
        refine jx_ld (pc' := 311) (l' := L) (st' := [.ref 66]) rfl (jl_aloadn gL_0) ?_
        refine jx_ar (pc' := 313) (st' := [.int (i32 (7)), .ref 66]) rfl rfl rfl rfl ?_
        have b309 : (-2147483648 : Int) ≤ G13 13 ∧ G13 13 ≤ 2147483647 := hW18.1 13
        refine jx_vr (pc' := 316) (as := [.int (i32 (7))]) (st := []) rfl rfl rfl rfl ⟨rfl, rfl, Nat.le_of_ble_eq_true rfl⟩ rfl rfl (c_isKey (dd := d) (hd := by omega) (hW := hW18) (k := 7) (tk := tk2_16) (e_tk := show G13 11 = tk2_16 from (e21)) (tn := G13 13) (e_tn := show G13 13 = G13 13 from rfl)  (h_k := ⟨(by decide), (by decide)⟩)  ) (fun o V' hq => ?_)
        obtain ⟨r310, rfl, rfl, b311, q312⟩ := hq
        refine .inr ⟨_, rfl, ?_⟩
        rcases q312 with ⟨rfl, a313, a314, a315⟩ | rfl
        · have _q : True := trivial
          refine jx_if_eq (pc' := 319) (tg := 327) rfl rfl rfl (by decide) (by decide) (fun h316 => ?_) (fun h316 => ?_)
          · have _q := h316
            exact absurd h316 (by omega)
          · have _q := h316
            refine jx_ld (pc' := 320) (l' := L) (st' := [.ref 66]) rfl (jl_aloadn gL_0) ?_
            refine jx_ar (pc' := 321) (st' := [.int (i32 (1)), .ref 66]) rfl rfl rfl rfl ?_
            refine jx_vr (pc' := 324) (as := [.int (i32 (1))]) (st := []) rfl rfl rfl rfl ⟨rfl, rfl, Nat.le_of_ble_eq_true rfl⟩ rfl rfl (c_need (dd := d) (hd := by omega) (hW := hW18) (g := 1) (ln := ln) (e_ln := show G13 9 = ln from ((hF19.1 9 rfl).trans (fx_9))) (le := le) (e_le := show A14 4 (ln).toNat = le from (congrFun ((hF19.2 4 rfl).trans (((congrFun eA1 4).trans (uA_ne (by decide))).trans (hFx.2 4 rfl))) _).trans (e_le)) (at0 := at2_15) (e_at0 := show G13 10 = at2_15 from (e20)) (fk := fk2_17) (e_fk := show G13 16 = fk2_17 from (e22)) (tk0 := tk2_16) (e_tk0 := show G13 11 = tk2_16 from (e21))  (h_g := ⟨(by decide), (by decide)⟩)  (p_0 := by omega)) (fun o V' hq => ?_)
            obtain ⟨G317, A318, at2_319, tk2_320, fk2_321, rfl, rfl, hW322, hF323, e324, e325, e326, p327, p328, q329⟩ := hq
            have hF330 := Fr_tr hF26 hF323 (Fr_sub (by decide)) (Fr_sub (by decide))
            have hP331 := Pf_f hP27 hF323 (by decide)
            have bat2_319 : (0 : Int) ≤ at2_319 ∧ at2_319 ≤ 3002 := e324 ▸ hW322.1 10
            have ztk2_320 := tz_b tk2_320
            have btk2_320 : (0 : Int) ≤ tk2_320 ∧ tk2_320 ≤ 5 := e325 ▸ hW322.1 11
            have bfk2_321 : (0 : Int) ≤ fk2_321 ∧ fk2_321 ≤ 6 := e326 ▸ hW322.1 16
            refine .inl ⟨rfl, ?_⟩
            rcases q329 with ⟨a332, a333, a334, a335⟩ | ⟨a336, a337, a338, a339⟩
            · have _q : True := trivial
              refine jx_go (tg := 359) rfl rfl ?_
              refine jx_ld (pc' := 360) (l' := L) (st' := [.ref 66]) rfl (jl_aloadn gL_0) ?_
              refine jx_vr (pc' := 363) (as := []) (st := []) rfl rfl rfl rfl ⟨rfl, rfl, Nat.le_of_ble_eq_true rfl⟩ rfl rfl (c_endLine (dd := d) (hd := by omega) (hW := hW322)  (ln := ln) (e_ln := show G317 9 = ln from ((hF323.1 9 rfl).trans ((hF19.1 9 rfl).trans (fx_9)))) (li := li) (e_li := show G317 3 = li from ((hF323.1 3 rfl).trans ((hF19.1 3 rfl).trans ((hFx.1 3 rfl).trans (e_li))))) (fk := fk2_321) (e_fk := show G317 16 = fk2_321 from (e326)) (tk0 := tk2_320) (e_tk0 := show G317 11 = tk2_320 from (e325))    (p_0 := by omega)) (fun o V' hq => ?_)
              obtain ⟨G340, A341, ln2_342, fk2_343, rfl, rfl, hW344, hF345, e346, e347, q348⟩ := hq
              have hF349 := Fr_tr hF330 hF345 (Fr_sub (by decide)) (Fr_sub (by decide))
              have hP350 := Pf_f hP331 hF345 (by decide)
              have bln2_342 : (0 : Int) ≤ ln2_342 ∧ ln2_342 ≤ 3000 := e346 ▸ hW344.1 9
              have bfk2_343 : (0 : Int) ≤ fk2_343 ∧ fk2_343 ≤ 6 := e347 ▸ hW344.1 16
              refine .inl ⟨rfl, ?_⟩
              rcases q348 with ⟨a351, a352, a353, a354, a355⟩ | ⟨a356, a357⟩
              · have _q : True := trivial
                exfalso
                omega
              · have _q : True := trivial
                refine jx_ld (pc' := 364) (l' := L) (st' := [.int (i32 (one))]) rfl (jl_iloadn gL_1) ?_
                refine jx_rt (v := some (.int (i32 (one)))) rfl rfl rfl rfl rfl rfl ?_
                exact ⟨_, _, _, at2_319, fk2_343, nd1, ln2_342, rfl, rfl, hW344, hF349, hP350, by omega, ((hF345.1 10 rfl).trans (e324)), (e347), ((hF345.1 31 rfl).trans ((hF323.1 31 rfl).trans ((hF19.1 31 rfl).trans (ex_nd1)))), (e346), by omega, by omega, by omega, by omega, by omega, by first | exact Or.inl (⟨by omega, by omega, by omega⟩) | exact Or.inr ((⟨by omega, by omega, by omega, by omega, by omega⟩))⟩
            · have _q : True := trivial
              refine jx_go (tg := 359) rfl rfl ?_
              refine jx_ld (pc' := 360) (l' := L) (st' := [.ref 66]) rfl (jl_aloadn gL_0) ?_
              refine jx_vr (pc' := 363) (as := []) (st := []) rfl rfl rfl rfl ⟨rfl, rfl, Nat.le_of_ble_eq_true rfl⟩ rfl rfl (c_endLine (dd := d) (hd := by omega) (hW := hW322)  (ln := ln) (e_ln := show G317 9 = ln from ((hF323.1 9 rfl).trans ((hF19.1 9 rfl).trans (fx_9)))) (li := li) (e_li := show G317 3 = li from ((hF323.1 3 rfl).trans ((hF19.1 3 rfl).trans ((hFx.1 3 rfl).trans (e_li))))) (fk := fk2_321) (e_fk := show G317 16 = fk2_321 from (e326)) (tk0 := tk2_320) (e_tk0 := show G317 11 = tk2_320 from (e325))    (p_0 := by omega)) (fun o V' hq => ?_)
              obtain ⟨G358, A359, ln2_360, fk2_361, rfl, rfl, hW362, hF363, e364, e365, q366⟩ := hq
              have hF367 := Fr_tr hF330 hF363 (Fr_sub (by decide)) (Fr_sub (by decide))
              have hP368 := Pf_f hP331 hF363 (by decide)
              have bln2_360 : (0 : Int) ≤ ln2_360 ∧ ln2_360 ≤ 3000 := e364 ▸ hW362.1 9
              have bfk2_361 : (0 : Int) ≤ fk2_361 ∧ fk2_361 ≤ 6 := e365 ▸ hW362.1 16
              refine .inl ⟨rfl, ?_⟩
              rcases q366 with ⟨a369, a370, a371, a372, a373⟩ | ⟨a374, a375⟩
              · have _q : True := trivial
                refine jx_ld (pc' := 364) (l' := L) (st' := [.int (i32 (one))]) rfl (jl_iloadn gL_1) ?_
                refine jx_rt (v := some (.int (i32 (one)))) rfl rfl rfl rfl rfl rfl ?_
                exact ⟨_, _, _, at2_319, fk2_361, nd1, ln2_360, rfl, rfl, hW362, hF367, hP368, by omega, ((hF363.1 10 rfl).trans (e324)), (e365), ((hF363.1 31 rfl).trans ((hF323.1 31 rfl).trans ((hF19.1 31 rfl).trans (ex_nd1)))), (e364), by omega, by omega, by omega, by omega, by omega, by first | exact Or.inl (⟨by omega, by omega, by omega⟩) | exact Or.inr ((⟨by omega, by omega, by omega, by omega, by omega⟩))⟩
              · have _q : True := trivial
                refine jx_ld (pc' := 364) (l' := L) (st' := [.int (i32 (one))]) rfl (jl_iloadn gL_1) ?_
                refine jx_rt (v := some (.int (i32 (one)))) rfl rfl rfl rfl rfl rfl ?_
                exact ⟨_, _, _, at2_319, fk2_361, nd1, ln2_360, rfl, rfl, hW362, hF367, hP368, by omega, ((hF363.1 10 rfl).trans (e324)), (e365), ((hF363.1 31 rfl).trans ((hF323.1 31 rfl).trans ((hF19.1 31 rfl).trans (ex_nd1)))), (e364), by omega, by omega, by omega, by omega, by omega, by first | exact Or.inl (⟨by omega, by omega, by omega⟩) | exact Or.inr ((⟨by omega, by omega, by omega, by omega, by omega⟩))⟩
        · have _q : True := trivial
          refine jx_if_eq (pc' := 319) (tg := 327) rfl rfl rfl (by decide) (by decide) (fun h376 => ?_) (fun h376 => ?_)
          · have _q := h376
            refine jx_ld (pc' := 328) (l' := L) (st' := [.ref 66]) rfl (jl_aloadn gL_0) ?_
            refine jr_get (pc' := 331) (i := 35) (v := .ref 85) rfl rfl (by decide) rfl rfl ?_
            refine jx_ld (pc' := 332) (l' := L) (st' := [.int (i32 (one)), .ref 85]) rfl (jl_iloadn gL_1) ?_
            refine jx_ld (pc' := 333) (l' := L) (st' := [.ref 66, .int (i32 (one)), .ref 85]) rfl (jl_aloadn gL_0) ?_
            refine jx_ar (pc' := 334) (st' := [.int (i32 (1)), .ref 66, .int (i32 (one)), .ref 85]) rfl rfl rfl rfl ?_
            refine jx_vr (pc' := 337) (as := [.int (i32 (1))]) (st := [.int (i32 (one)), .ref 85]) rfl rfl rfl rfl ⟨rfl, rfl, Nat.le_of_ble_eq_true rfl⟩ rfl rfl (c_readReference (dd := d) (hd := by omega) (hW := hW18) (ch := 1) (ln := ln) (e_ln := show G13 9 = ln from ((hF19.1 9 rfl).trans (fx_9))) (le := le) (e_le := show A14 4 (ln).toNat = le from (congrFun ((hF19.2 4 rfl).trans (((congrFun eA1 4).trans (uA_ne (by decide))).trans (hFx.2 4 rfl))) _).trans (e_le)) (at0 := at2_15) (e_at0 := show G13 10 = at2_15 from (e20)) (fk := fk2_17) (e_fk := show G13 16 = fk2_17 from (e22)) (op0 := op1) (e_op0 := show G13 15 = op1 from ((hF19.1 15 rfl).trans (ex_op1))) (nd := nd1) (e_nd := show G13 31 = nd1 from ((hF19.1 31 rfl).trans (ex_nd1))) (tk0 := tk2_16) (e_tk0 := show G13 11 = tk2_16 from (e21))  (h_ch := ⟨(by decide), (by decide)⟩)  (p_0 := by omega) (p_1 := by omega) (p_2 := by omega) (p_3 := by omega) (p_4 := by omega)) (fun o V' hq => ?_)
            obtain ⟨G377, A378, r379, at2_380, fk2_381, op2_382, nd2_383, tk2_384, rfl, rfl, hW385, hF386, hQ387, b388, e389, e390, e391, e392, e393, p394, p395, p396, p397, p398, p399, q400⟩ := hq
            have hF401 := Fr_tr hF26 hF386 (Fr_sub (by decide)) (Fr_sub (by decide))
            have k402 : A378 17 (one).toNat = e := (hQ387 17 _ rfl (by omega)).trans (show A14 17 (one).toNat = e from (congrFun (hF19.2 17 rfl) _).trans (q4))
            have hP403 := Pf_tr hP27 hQ387 (by omega)
            have bat2_380 : (0 : Int) ≤ at2_380 ∧ at2_380 ≤ 3002 := e389 ▸ hW385.1 10
            have bfk2_381 : (0 : Int) ≤ fk2_381 ∧ fk2_381 ≤ 6 := e390 ▸ hW385.1 16
            have bop2_382 : (-2147483648 : Int) ≤ op2_382 ∧ op2_382 ≤ 2147483647 := e391 ▸ hW385.1 15
            have bnd2_383 : (0 : Int) ≤ nd2_383 ∧ nd2_383 ≤ 6999 := e392 ▸ hW385.1 31
            have ztk2_384 := tz_b tk2_384
            have btk2_384 : (0 : Int) ≤ tk2_384 ∧ tk2_384 ≤ 5 := e393 ▸ hW385.1 11
            refine .inr ⟨_, rfl, ?_⟩
            rcases q400 with ⟨a404, a405, a406, a407, a408, a409⟩ | ⟨a410, a411, a412⟩ | ⟨a413, a414, a415⟩
            · have _q : True := trivial
              exfalso
              omega
            · have _q : True := trivial
              refine jr_st (pc' := 338) (i := 18) (m := 7000) (z := one) (y := r379) rfl (by decide) rfl (by decide) (by omega) (by omega) rfl ?_
              have hW417 : Wk G377 (uA A378 18 (one).toNat (r379)) := Wk_a hW385 (show (-2147483648 : Int) ≤ r379 by omega) (show r379 ≤ (2147483647 : Int) by omega)
              have hF418 := Fr_a (z := r379) (k := 18) (n := (one).toNat) hF401 (by decide)
              obtain ⟨A416, eA416⟩ : ∃ q, q = uA A378 18 (one).toNat (r379) := ⟨_, rfl⟩
              rw [← eA416]
              rw [← eA416] at hW417 hF418
              have q419 : A416 18 (one).toNat = r379 := by rw [eA416]; exact uA_eq
              have hP420 : Pf nd A A416 := eA416 ▸ Pf_a hP403 (z := one) (by omega) (by omega)
              refine jx_ld (pc' := 339) (l' := L) (st' := [.ref 66]) rfl (jl_aloadn gL_0) ?_
              refine jx_ld (pc' := 340) (l' := L) (st' := [.ref 66, .ref 66]) rfl (jl_aloadn gL_0) ?_
              refine jx_ar (pc' := 342) (st' := [.int (i32 (63)), .ref 66, .ref 66]) rfl rfl rfl rfl ?_
              have b421 : (-2147483648 : Int) ≤ G377 13 ∧ G377 13 ≤ 2147483647 := hW385.1 13
              refine jx_vr (pc' := 345) (as := [.int (i32 (63))]) (st := [.ref 66]) rfl rfl rfl rfl ⟨rfl, rfl, Nat.le_of_ble_eq_true rfl⟩ rfl rfl (c_is (dd := d) (hd := by omega) (hW := hW417) (k := 63) (tk := tk2_384) (e_tk := show G377 11 = tk2_384 from (e393)) (tn := G377 13) (e_tn := show G377 13 = G377 13 from rfl)  (h_k := ⟨(by decide), (by decide)⟩)  ) (fun o V' hq => ?_)
              obtain ⟨r422, rfl, rfl, b423, q424⟩ := hq
              refine .inr ⟨_, rfl, ?_⟩
              rcases q424 with ⟨rfl, a425, a426, a427⟩ | rfl
              · have _q : True := trivial
                refine jx_vr (pc' := 348) (as := [.int (i32 (1))]) (st := []) rfl rfl rfl rfl ⟨rfl, rfl, Nat.le_of_ble_eq_true rfl⟩ rfl rfl (c_need (dd := d) (hd := by omega) (hW := hW417) (g := 1) (ln := ln) (e_ln := show G377 9 = ln from ((hF386.1 9 rfl).trans ((hF19.1 9 rfl).trans (fx_9)))) (le := le) (e_le := show A416 4 (ln).toNat = le from (congrFun (((congrFun eA416 4).trans (uA_ne (by decide))).trans ((hF386.2 4 rfl).trans ((hF19.2 4 rfl).trans (((congrFun eA1 4).trans (uA_ne (by decide))).trans (hFx.2 4 rfl))))) _).trans (e_le)) (at0 := at2_380) (e_at0 := show G377 10 = at2_380 from (e389)) (fk := fk2_381) (e_fk := show G377 16 = fk2_381 from (e390)) (tk0 := tk2_384) (e_tk0 := show G377 11 = tk2_384 from (e393))  (h_g := ⟨(by decide), (by decide)⟩)  (p_0 := by omega)) (fun o V' hq => ?_)
                obtain ⟨G428, A429, at2_430, tk2_431, fk2_432, rfl, rfl, hW433, hF434, e435, e436, e437, p438, p439, q440⟩ := hq
                have hF441 := Fr_tr hF418 hF434 (Fr_sub (by decide)) (Fr_sub (by decide))
                have hP442 := Pf_f hP420 hF434 (by decide)
                have bat2_430 : (0 : Int) ≤ at2_430 ∧ at2_430 ≤ 3002 := e435 ▸ hW433.1 10
                have ztk2_431 := tz_b tk2_431
                have btk2_431 : (0 : Int) ≤ tk2_431 ∧ tk2_431 ≤ 5 := e436 ▸ hW433.1 11
                have bfk2_432 : (0 : Int) ≤ fk2_432 ∧ fk2_432 ≤ 6 := e437 ▸ hW433.1 16
                refine .inl ⟨rfl, ?_⟩
                rcases q440 with ⟨a443, a444, a445, a446⟩ | ⟨a447, a448, a449, a450⟩
                · have _q : True := trivial
                  refine jx_ld (pc' := 349) (l' := L) (st' := [.ref 66]) rfl (jl_aloadn gL_0) ?_
                  refine jr_get (pc' := 352) (i := 36) (v := .ref 86) rfl rfl (by decide) rfl rfl ?_
                  refine jx_ld (pc' := 353) (l' := L) (st' := [.int (i32 (one)), .ref 86]) rfl (jl_iloadn gL_1) ?_
                  refine jx_ld (pc' := 354) (l' := L) (st' := [.ref 66, .int (i32 (one)), .ref 86]) rfl (jl_aloadn gL_0) ?_
                  refine jx_ar (pc' := 355) (st' := [.int (i32 (0)), .ref 66, .int (i32 (one)), .ref 86]) rfl rfl rfl rfl ?_
                  refine jx_vr (pc' := 358) (as := [.int (i32 (0))]) (st := [.int (i32 (one)), .ref 86]) rfl rfl rfl rfl ⟨rfl, rfl, Nat.le_of_ble_eq_true rfl⟩ rfl rfl (c_readReference (dd := d) (hd := by omega) (hW := hW433) (ch := 0) (ln := ln) (e_ln := show G428 9 = ln from ((hF434.1 9 rfl).trans ((hF386.1 9 rfl).trans ((hF19.1 9 rfl).trans (fx_9))))) (le := le) (e_le := show A429 4 (ln).toNat = le from (congrFun ((hF434.2 4 rfl).trans (((congrFun eA416 4).trans (uA_ne (by decide))).trans ((hF386.2 4 rfl).trans ((hF19.2 4 rfl).trans (((congrFun eA1 4).trans (uA_ne (by decide))).trans (hFx.2 4 rfl)))))) _).trans (e_le)) (at0 := at2_430) (e_at0 := show G428 10 = at2_430 from (e435)) (fk := fk2_432) (e_fk := show G428 16 = fk2_432 from (e437)) (op0 := op2_382) (e_op0 := show G428 15 = op2_382 from ((hF434.1 15 rfl).trans (e391))) (nd := nd2_383) (e_nd := show G428 31 = nd2_383 from ((hF434.1 31 rfl).trans (e392))) (tk0 := tk2_431) (e_tk0 := show G428 11 = tk2_431 from (e436))  (h_ch := ⟨(by decide), (by decide)⟩)  (p_0 := by omega) (p_1 := by omega) (p_2 := by omega) (p_3 := by omega) (p_4 := by omega)) (fun o V' hq => ?_)
                  obtain ⟨G451, A452, r453, at2_454, fk2_455, op2_456, nd2_457, tk2_458, rfl, rfl, hW459, hF460, hQ461, b462, e463, e464, e465, e466, e467, p468, p469, p470, p471, p472, p473, q474⟩ := hq
                  have hF475 := Fr_tr hF441 hF460 (Fr_sub (by decide)) (Fr_sub (by decide))
                  have k476 : A452 17 (one).toNat = e := (hQ461 17 _ rfl (by omega)).trans (show A429 17 (one).toNat = e from (congrFun ((hF434.2 17 rfl).trans ((congrFun eA416 17).trans (uA_ne (by decide)))) _).trans (k402))
                  have k477 : A452 18 (one).toNat = r379 := (hQ461 18 _ rfl (by omega)).trans (show A429 18 (one).toNat = r379 from (congrFun (hF434.2 18 rfl) _).trans (q419))
                  have hP478 := Pf_tr hP442 hQ461 (by omega)
                  have bat2_454 : (0 : Int) ≤ at2_454 ∧ at2_454 ≤ 3002 := e463 ▸ hW459.1 10
                  have bfk2_455 : (0 : Int) ≤ fk2_455 ∧ fk2_455 ≤ 6 := e464 ▸ hW459.1 16
                  have bop2_456 : (-2147483648 : Int) ≤ op2_456 ∧ op2_456 ≤ 2147483647 := e465 ▸ hW459.1 15
                  have bnd2_457 : (0 : Int) ≤ nd2_457 ∧ nd2_457 ≤ 6999 := e466 ▸ hW459.1 31
                  have ztk2_458 := tz_b tk2_458
                  have btk2_458 : (0 : Int) ≤ tk2_458 ∧ tk2_458 ≤ 5 := e467 ▸ hW459.1 11
                  refine .inr ⟨_, rfl, ?_⟩
                  rcases q474 with ⟨a479, a480, a481, a482, a483, a484⟩ | ⟨a485, a486, a487⟩ | ⟨a488, a489, a490⟩
                  · have _q : True := trivial
                    refine jr_st (pc' := 359) (i := 19) (m := 7000) (z := one) (y := r453) rfl (by decide) rfl (by decide) (by omega) (by omega) rfl ?_
                    have hW492 : Wk G451 (uA A452 19 (one).toNat (r453)) := Wk_a hW459 (show (-2147483648 : Int) ≤ r453 by omega) (show r453 ≤ (2147483647 : Int) by omega)
                    have hF493 := Fr_a (z := r453) (k := 19) (n := (one).toNat) hF475 (by decide)
                    obtain ⟨A491, eA491⟩ : ∃ q, q = uA A452 19 (one).toNat (r453) := ⟨_, rfl⟩
                    rw [← eA491]
                    rw [← eA491] at hW492 hF493
                    have q494 : A491 19 (one).toNat = r453 := by rw [eA491]; exact uA_eq
                    have hP495 : Pf nd A A491 := eA491 ▸ Pf_a hP478 (z := one) (by omega) (by omega)
                    refine jx_ld (pc' := 360) (l' := L) (st' := [.ref 66]) rfl (jl_aloadn gL_0) ?_
                    refine jx_vr (pc' := 363) (as := []) (st := []) rfl rfl rfl rfl ⟨rfl, rfl, Nat.le_of_ble_eq_true rfl⟩ rfl rfl (c_endLine (dd := d) (hd := by omega) (hW := hW492)  (ln := ln) (e_ln := show G451 9 = ln from ((hF460.1 9 rfl).trans ((hF434.1 9 rfl).trans ((hF386.1 9 rfl).trans ((hF19.1 9 rfl).trans (fx_9)))))) (li := li) (e_li := show G451 3 = li from ((hF460.1 3 rfl).trans ((hF434.1 3 rfl).trans ((hF386.1 3 rfl).trans ((hF19.1 3 rfl).trans ((hFx.1 3 rfl).trans (e_li))))))) (fk := fk2_455) (e_fk := show G451 16 = fk2_455 from (e464)) (tk0 := tk2_458) (e_tk0 := show G451 11 = tk2_458 from (e467))    (p_0 := by omega)) (fun o V' hq => ?_)
                    obtain ⟨G496, A497, ln2_498, fk2_499, rfl, rfl, hW500, hF501, e502, e503, q504⟩ := hq
                    have hF505 := Fr_tr hF493 hF501 (Fr_sub (by decide)) (Fr_sub (by decide))
                    have hP506 := Pf_f hP495 hF501 (by decide)
                    have bln2_498 : (0 : Int) ≤ ln2_498 ∧ ln2_498 ≤ 3000 := e502 ▸ hW500.1 9
                    have bfk2_499 : (0 : Int) ≤ fk2_499 ∧ fk2_499 ≤ 6 := e503 ▸ hW500.1 16
                    refine .inl ⟨rfl, ?_⟩
                    rcases q504 with ⟨a507, a508, a509, a510, a511⟩ | ⟨a512, a513⟩
                    · have _q : True := trivial
                      exfalso
                      omega
                    · have _q : True := trivial
                      refine jx_ld (pc' := 364) (l' := L) (st' := [.int (i32 (one))]) rfl (jl_iloadn gL_1) ?_
                      refine jx_rt (v := some (.int (i32 (one)))) rfl rfl rfl rfl rfl rfl ?_
                      exact ⟨_, _, _, at2_454, fk2_499, nd2_457, ln2_498, rfl, rfl, hW500, hF505, hP506, by omega, ((hF501.1 10 rfl).trans (e463)), (e503), ((hF501.1 31 rfl).trans (e466)), (e502), by omega, by omega, by omega, by omega, by omega, by first | exact Or.inl (⟨by omega, by omega, by omega⟩) | exact Or.inr ((⟨by omega, by omega, by omega, by omega, by omega⟩))⟩
                  · have _q : True := trivial
                    exfalso
                    omega
                  · have _q : True := trivial
                    exfalso
                    omega
                · have _q : True := trivial
                  exfalso
                  omega
              · have _q : True := trivial
                refine jx_vr (pc' := 348) (as := [.int (i32 (0))]) (st := []) rfl rfl rfl rfl ⟨rfl, rfl, Nat.le_of_ble_eq_true rfl⟩ rfl rfl (c_need (dd := d) (hd := by omega) (hW := hW417) (g := 0) (ln := ln) (e_ln := show G377 9 = ln from ((hF386.1 9 rfl).trans ((hF19.1 9 rfl).trans (fx_9)))) (le := le) (e_le := show A416 4 (ln).toNat = le from (congrFun (((congrFun eA416 4).trans (uA_ne (by decide))).trans ((hF386.2 4 rfl).trans ((hF19.2 4 rfl).trans (((congrFun eA1 4).trans (uA_ne (by decide))).trans (hFx.2 4 rfl))))) _).trans (e_le)) (at0 := at2_380) (e_at0 := show G377 10 = at2_380 from (e389)) (fk := fk2_381) (e_fk := show G377 16 = fk2_381 from (e390)) (tk0 := tk2_384) (e_tk0 := show G377 11 = tk2_384 from (e393))  (h_g := ⟨(by decide), (by decide)⟩)  (p_0 := by omega)) (fun o V' hq => ?_)
                obtain ⟨G514, A515, at2_516, tk2_517, fk2_518, rfl, rfl, hW519, hF520, e521, e522, e523, p524, p525, q526⟩ := hq
                have hF527 := Fr_tr hF418 hF520 (Fr_sub (by decide)) (Fr_sub (by decide))
                have hP528 := Pf_f hP420 hF520 (by decide)
                have bat2_516 : (0 : Int) ≤ at2_516 ∧ at2_516 ≤ 3002 := e521 ▸ hW519.1 10
                have ztk2_517 := tz_b tk2_517
                have btk2_517 : (0 : Int) ≤ tk2_517 ∧ tk2_517 ≤ 5 := e522 ▸ hW519.1 11
                have bfk2_518 : (0 : Int) ≤ fk2_518 ∧ fk2_518 ≤ 6 := e523 ▸ hW519.1 16
                refine .inl ⟨rfl, ?_⟩
                rcases q526 with ⟨a529, a530, a531, a532⟩ | ⟨a533, a534, a535, a536⟩
                · have _q : True := trivial
                  refine jx_ld (pc' := 349) (l' := L) (st' := [.ref 66]) rfl (jl_aloadn gL_0) ?_
                  refine jr_get (pc' := 352) (i := 36) (v := .ref 86) rfl rfl (by decide) rfl rfl ?_
                  refine jx_ld (pc' := 353) (l' := L) (st' := [.int (i32 (one)), .ref 86]) rfl (jl_iloadn gL_1) ?_
                  refine jx_ld (pc' := 354) (l' := L) (st' := [.ref 66, .int (i32 (one)), .ref 86]) rfl (jl_aloadn gL_0) ?_
                  refine jx_ar (pc' := 355) (st' := [.int (i32 (0)), .ref 66, .int (i32 (one)), .ref 86]) rfl rfl rfl rfl ?_
                  refine jx_vr (pc' := 358) (as := [.int (i32 (0))]) (st := [.int (i32 (one)), .ref 86]) rfl rfl rfl rfl ⟨rfl, rfl, Nat.le_of_ble_eq_true rfl⟩ rfl rfl (c_readReference (dd := d) (hd := by omega) (hW := hW519) (ch := 0) (ln := ln) (e_ln := show G514 9 = ln from ((hF520.1 9 rfl).trans ((hF386.1 9 rfl).trans ((hF19.1 9 rfl).trans (fx_9))))) (le := le) (e_le := show A515 4 (ln).toNat = le from (congrFun ((hF520.2 4 rfl).trans (((congrFun eA416 4).trans (uA_ne (by decide))).trans ((hF386.2 4 rfl).trans ((hF19.2 4 rfl).trans (((congrFun eA1 4).trans (uA_ne (by decide))).trans (hFx.2 4 rfl)))))) _).trans (e_le)) (at0 := at2_516) (e_at0 := show G514 10 = at2_516 from (e521)) (fk := fk2_518) (e_fk := show G514 16 = fk2_518 from (e523)) (op0 := op2_382) (e_op0 := show G514 15 = op2_382 from ((hF520.1 15 rfl).trans (e391))) (nd := nd2_383) (e_nd := show G514 31 = nd2_383 from ((hF520.1 31 rfl).trans (e392))) (tk0 := tk2_517) (e_tk0 := show G514 11 = tk2_517 from (e522))  (h_ch := ⟨(by decide), (by decide)⟩)  (p_0 := by omega) (p_1 := by omega) (p_2 := by omega) (p_3 := by omega) (p_4 := by omega)) (fun o V' hq => ?_)
                  obtain ⟨G537, A538, r539, at2_540, fk2_541, op2_542, nd2_543, tk2_544, rfl, rfl, hW545, hF546, hQ547, b548, e549, e550, e551, e552, e553, p554, p555, p556, p557, p558, p559, q560⟩ := hq
                  have hF561 := Fr_tr hF527 hF546 (Fr_sub (by decide)) (Fr_sub (by decide))
                  have k562 : A538 17 (one).toNat = e := (hQ547 17 _ rfl (by omega)).trans (show A515 17 (one).toNat = e from (congrFun ((hF520.2 17 rfl).trans ((congrFun eA416 17).trans (uA_ne (by decide)))) _).trans (k402))
                  have k563 : A538 18 (one).toNat = r379 := (hQ547 18 _ rfl (by omega)).trans (show A515 18 (one).toNat = r379 from (congrFun (hF520.2 18 rfl) _).trans (q419))
                  have hP564 := Pf_tr hP528 hQ547 (by omega)
                  have bat2_540 : (0 : Int) ≤ at2_540 ∧ at2_540 ≤ 3002 := e549 ▸ hW545.1 10
                  have bfk2_541 : (0 : Int) ≤ fk2_541 ∧ fk2_541 ≤ 6 := e550 ▸ hW545.1 16
                  have bop2_542 : (-2147483648 : Int) ≤ op2_542 ∧ op2_542 ≤ 2147483647 := e551 ▸ hW545.1 15
                  have bnd2_543 : (0 : Int) ≤ nd2_543 ∧ nd2_543 ≤ 6999 := e552 ▸ hW545.1 31
                  have ztk2_544 := tz_b tk2_544
                  have btk2_544 : (0 : Int) ≤ tk2_544 ∧ tk2_544 ≤ 5 := e553 ▸ hW545.1 11
                  refine .inr ⟨_, rfl, ?_⟩
                  rcases q560 with ⟨a565, a566, a567, a568, a569, a570⟩ | ⟨a571, a572, a573⟩ | ⟨a574, a575, a576⟩
                  · have _q : True := trivial
                    refine jr_st (pc' := 359) (i := 19) (m := 7000) (z := one) (y := r539) rfl (by decide) rfl (by decide) (by omega) (by omega) rfl ?_
                    have hW578 : Wk G537 (uA A538 19 (one).toNat (r539)) := Wk_a hW545 (show (-2147483648 : Int) ≤ r539 by omega) (show r539 ≤ (2147483647 : Int) by omega)
                    have hF579 := Fr_a (z := r539) (k := 19) (n := (one).toNat) hF561 (by decide)
                    obtain ⟨A577, eA577⟩ : ∃ q, q = uA A538 19 (one).toNat (r539) := ⟨_, rfl⟩
                    rw [← eA577]
                    rw [← eA577] at hW578 hF579
                    have q580 : A577 19 (one).toNat = r539 := by rw [eA577]; exact uA_eq
                    have hP581 : Pf nd A A577 := eA577 ▸ Pf_a hP564 (z := one) (by omega) (by omega)
                    refine jx_ld (pc' := 360) (l' := L) (st' := [.ref 66]) rfl (jl_aloadn gL_0) ?_
                    refine jx_vr (pc' := 363) (as := []) (st := []) rfl rfl rfl rfl ⟨rfl, rfl, Nat.le_of_ble_eq_true rfl⟩ rfl rfl (c_endLine (dd := d) (hd := by omega) (hW := hW578)  (ln := ln) (e_ln := show G537 9 = ln from ((hF546.1 9 rfl).trans ((hF520.1 9 rfl).trans ((hF386.1 9 rfl).trans ((hF19.1 9 rfl).trans (fx_9)))))) (li := li) (e_li := show G537 3 = li from ((hF546.1 3 rfl).trans ((hF520.1 3 rfl).trans ((hF386.1 3 rfl).trans ((hF19.1 3 rfl).trans ((hFx.1 3 rfl).trans (e_li))))))) (fk := fk2_541) (e_fk := show G537 16 = fk2_541 from (e550)) (tk0 := tk2_544) (e_tk0 := show G537 11 = tk2_544 from (e553))    (p_0 := by omega)) (fun o V' hq => ?_)
                    obtain ⟨G582, A583, ln2_584, fk2_585, rfl, rfl, hW586, hF587, e588, e589, q590⟩ := hq
                    have hF591 := Fr_tr hF579 hF587 (Fr_sub (by decide)) (Fr_sub (by decide))
                    have hP592 := Pf_f hP581 hF587 (by decide)
                    have bln2_584 : (0 : Int) ≤ ln2_584 ∧ ln2_584 ≤ 3000 := e588 ▸ hW586.1 9
                    have bfk2_585 : (0 : Int) ≤ fk2_585 ∧ fk2_585 ≤ 6 := e589 ▸ hW586.1 16
                    refine .inl ⟨rfl, ?_⟩
                    rcases q590 with ⟨a593, a594, a595, a596, a597⟩ | ⟨a598, a599⟩
                    · have _q : True := trivial
                      exfalso
                      omega
                    · have _q : True := trivial
                      refine jx_ld (pc' := 364) (l' := L) (st' := [.int (i32 (one))]) rfl (jl_iloadn gL_1) ?_
                      refine jx_rt (v := some (.int (i32 (one)))) rfl rfl rfl rfl rfl rfl ?_
                      exact ⟨_, _, _, at2_540, fk2_585, nd2_543, ln2_584, rfl, rfl, hW586, hF591, hP592, by omega, ((hF587.1 10 rfl).trans (e549)), (e589), ((hF587.1 31 rfl).trans (e552)), (e588), by omega, by omega, by omega, by omega, by omega, by first | exact Or.inl (⟨by omega, by omega, by omega⟩) | exact Or.inr ((⟨by omega, by omega, by omega, by omega, by omega⟩))⟩
                  · have _q : True := trivial
                    exfalso
                    omega
                  · have _q : True := trivial
                    exfalso
                    omega
                · have _q : True := trivial
                  exfalso
                  omega
            · have _q : True := trivial
              refine jr_st (pc' := 338) (i := 18) (m := 7000) (z := one) (y := r379) rfl (by decide) rfl (by decide) (by omega) (by omega) rfl ?_
              have hW601 : Wk G377 (uA A378 18 (one).toNat (r379)) := Wk_a hW385 (show (-2147483648 : Int) ≤ r379 by omega) (show r379 ≤ (2147483647 : Int) by omega)
              have hF602 := Fr_a (z := r379) (k := 18) (n := (one).toNat) hF401 (by decide)
              obtain ⟨A600, eA600⟩ : ∃ q, q = uA A378 18 (one).toNat (r379) := ⟨_, rfl⟩
              rw [← eA600]
              rw [← eA600] at hW601 hF602
              have q603 : A600 18 (one).toNat = r379 := by rw [eA600]; exact uA_eq
              have hP604 : Pf nd A A600 := eA600 ▸ Pf_a hP403 (z := one) (by omega) (by omega)
              refine jx_ld (pc' := 339) (l' := L) (st' := [.ref 66]) rfl (jl_aloadn gL_0) ?_
              refine jx_ld (pc' := 340) (l' := L) (st' := [.ref 66, .ref 66]) rfl (jl_aloadn gL_0) ?_
              refine jx_ar (pc' := 342) (st' := [.int (i32 (63)), .ref 66, .ref 66]) rfl rfl rfl rfl ?_
              have b605 : (-2147483648 : Int) ≤ G377 13 ∧ G377 13 ≤ 2147483647 := hW385.1 13
              refine jx_vr (pc' := 345) (as := [.int (i32 (63))]) (st := [.ref 66]) rfl rfl rfl rfl ⟨rfl, rfl, Nat.le_of_ble_eq_true rfl⟩ rfl rfl (c_is (dd := d) (hd := by omega) (hW := hW601) (k := 63) (tk := tk2_384) (e_tk := show G377 11 = tk2_384 from (e393)) (tn := G377 13) (e_tn := show G377 13 = G377 13 from rfl)  (h_k := ⟨(by decide), (by decide)⟩)  ) (fun o V' hq => ?_)
              obtain ⟨r606, rfl, rfl, b607, q608⟩ := hq
              refine .inr ⟨_, rfl, ?_⟩
              rcases q608 with ⟨rfl, a609, a610, a611⟩ | rfl
              · have _q : True := trivial
                refine jx_vr (pc' := 348) (as := [.int (i32 (1))]) (st := []) rfl rfl rfl rfl ⟨rfl, rfl, Nat.le_of_ble_eq_true rfl⟩ rfl rfl (c_need (dd := d) (hd := by omega) (hW := hW601) (g := 1) (ln := ln) (e_ln := show G377 9 = ln from ((hF386.1 9 rfl).trans ((hF19.1 9 rfl).trans (fx_9)))) (le := le) (e_le := show A600 4 (ln).toNat = le from (congrFun (((congrFun eA600 4).trans (uA_ne (by decide))).trans ((hF386.2 4 rfl).trans ((hF19.2 4 rfl).trans (((congrFun eA1 4).trans (uA_ne (by decide))).trans (hFx.2 4 rfl))))) _).trans (e_le)) (at0 := at2_380) (e_at0 := show G377 10 = at2_380 from (e389)) (fk := fk2_381) (e_fk := show G377 16 = fk2_381 from (e390)) (tk0 := tk2_384) (e_tk0 := show G377 11 = tk2_384 from (e393))  (h_g := ⟨(by decide), (by decide)⟩)  (p_0 := by omega)) (fun o V' hq => ?_)
                obtain ⟨G612, A613, at2_614, tk2_615, fk2_616, rfl, rfl, hW617, hF618, e619, e620, e621, p622, p623, q624⟩ := hq
                have hF625 := Fr_tr hF602 hF618 (Fr_sub (by decide)) (Fr_sub (by decide))
                have hP626 := Pf_f hP604 hF618 (by decide)
                have bat2_614 : (0 : Int) ≤ at2_614 ∧ at2_614 ≤ 3002 := e619 ▸ hW617.1 10
                have ztk2_615 := tz_b tk2_615
                have btk2_615 : (0 : Int) ≤ tk2_615 ∧ tk2_615 ≤ 5 := e620 ▸ hW617.1 11
                have bfk2_616 : (0 : Int) ≤ fk2_616 ∧ fk2_616 ≤ 6 := e621 ▸ hW617.1 16
                refine .inl ⟨rfl, ?_⟩
                rcases q624 with ⟨a627, a628, a629, a630⟩ | ⟨a631, a632, a633, a634⟩
                · have _q : True := trivial
                  refine jx_ld (pc' := 349) (l' := L) (st' := [.ref 66]) rfl (jl_aloadn gL_0) ?_
                  refine jr_get (pc' := 352) (i := 36) (v := .ref 86) rfl rfl (by decide) rfl rfl ?_
                  refine jx_ld (pc' := 353) (l' := L) (st' := [.int (i32 (one)), .ref 86]) rfl (jl_iloadn gL_1) ?_
                  refine jx_ld (pc' := 354) (l' := L) (st' := [.ref 66, .int (i32 (one)), .ref 86]) rfl (jl_aloadn gL_0) ?_
                  refine jx_ar (pc' := 355) (st' := [.int (i32 (0)), .ref 66, .int (i32 (one)), .ref 86]) rfl rfl rfl rfl ?_
                  refine jx_vr (pc' := 358) (as := [.int (i32 (0))]) (st := [.int (i32 (one)), .ref 86]) rfl rfl rfl rfl ⟨rfl, rfl, Nat.le_of_ble_eq_true rfl⟩ rfl rfl (c_readReference (dd := d) (hd := by omega) (hW := hW617) (ch := 0) (ln := ln) (e_ln := show G612 9 = ln from ((hF618.1 9 rfl).trans ((hF386.1 9 rfl).trans ((hF19.1 9 rfl).trans (fx_9))))) (le := le) (e_le := show A613 4 (ln).toNat = le from (congrFun ((hF618.2 4 rfl).trans (((congrFun eA600 4).trans (uA_ne (by decide))).trans ((hF386.2 4 rfl).trans ((hF19.2 4 rfl).trans (((congrFun eA1 4).trans (uA_ne (by decide))).trans (hFx.2 4 rfl)))))) _).trans (e_le)) (at0 := at2_614) (e_at0 := show G612 10 = at2_614 from (e619)) (fk := fk2_616) (e_fk := show G612 16 = fk2_616 from (e621)) (op0 := op2_382) (e_op0 := show G612 15 = op2_382 from ((hF618.1 15 rfl).trans (e391))) (nd := nd2_383) (e_nd := show G612 31 = nd2_383 from ((hF618.1 31 rfl).trans (e392))) (tk0 := tk2_615) (e_tk0 := show G612 11 = tk2_615 from (e620))  (h_ch := ⟨(by decide), (by decide)⟩)  (p_0 := by omega) (p_1 := by omega) (p_2 := by omega) (p_3 := by omega) (p_4 := by omega)) (fun o V' hq => ?_)
                  obtain ⟨G635, A636, r637, at2_638, fk2_639, op2_640, nd2_641, tk2_642, rfl, rfl, hW643, hF644, hQ645, b646, e647, e648, e649, e650, e651, p652, p653, p654, p655, p656, p657, q658⟩ := hq
                  have hF659 := Fr_tr hF625 hF644 (Fr_sub (by decide)) (Fr_sub (by decide))
                  have k660 : A636 17 (one).toNat = e := (hQ645 17 _ rfl (by omega)).trans (show A613 17 (one).toNat = e from (congrFun ((hF618.2 17 rfl).trans ((congrFun eA600 17).trans (uA_ne (by decide)))) _).trans (k402))
                  have k661 : A636 18 (one).toNat = r379 := (hQ645 18 _ rfl (by omega)).trans (show A613 18 (one).toNat = r379 from (congrFun (hF618.2 18 rfl) _).trans (q603))
                  have hP662 := Pf_tr hP626 hQ645 (by omega)
                  have bat2_638 : (0 : Int) ≤ at2_638 ∧ at2_638 ≤ 3002 := e647 ▸ hW643.1 10
                  have bfk2_639 : (0 : Int) ≤ fk2_639 ∧ fk2_639 ≤ 6 := e648 ▸ hW643.1 16
                  have bop2_640 : (-2147483648 : Int) ≤ op2_640 ∧ op2_640 ≤ 2147483647 := e649 ▸ hW643.1 15
                  have bnd2_641 : (0 : Int) ≤ nd2_641 ∧ nd2_641 ≤ 6999 := e650 ▸ hW643.1 31
                  have ztk2_642 := tz_b tk2_642
                  have btk2_642 : (0 : Int) ≤ tk2_642 ∧ tk2_642 ≤ 5 := e651 ▸ hW643.1 11
                  refine .inr ⟨_, rfl, ?_⟩
                  rcases q658 with ⟨a663, a664, a665, a666, a667, a668⟩ | ⟨a669, a670, a671⟩ | ⟨a672, a673, a674⟩
                  · have _q : True := trivial
                    refine jr_st (pc' := 359) (i := 19) (m := 7000) (z := one) (y := r637) rfl (by decide) rfl (by decide) (by omega) (by omega) rfl ?_
                    have hW676 : Wk G635 (uA A636 19 (one).toNat (r637)) := Wk_a hW643 (show (-2147483648 : Int) ≤ r637 by omega) (show r637 ≤ (2147483647 : Int) by omega)
                    have hF677 := Fr_a (z := r637) (k := 19) (n := (one).toNat) hF659 (by decide)
                    obtain ⟨A675, eA675⟩ : ∃ q, q = uA A636 19 (one).toNat (r637) := ⟨_, rfl⟩
                    rw [← eA675]
                    rw [← eA675] at hW676 hF677
                    have q678 : A675 19 (one).toNat = r637 := by rw [eA675]; exact uA_eq
                    have hP679 : Pf nd A A675 := eA675 ▸ Pf_a hP662 (z := one) (by omega) (by omega)
                    refine jx_ld (pc' := 360) (l' := L) (st' := [.ref 66]) rfl (jl_aloadn gL_0) ?_
                    refine jx_vr (pc' := 363) (as := []) (st := []) rfl rfl rfl rfl ⟨rfl, rfl, Nat.le_of_ble_eq_true rfl⟩ rfl rfl (c_endLine (dd := d) (hd := by omega) (hW := hW676)  (ln := ln) (e_ln := show G635 9 = ln from ((hF644.1 9 rfl).trans ((hF618.1 9 rfl).trans ((hF386.1 9 rfl).trans ((hF19.1 9 rfl).trans (fx_9)))))) (li := li) (e_li := show G635 3 = li from ((hF644.1 3 rfl).trans ((hF618.1 3 rfl).trans ((hF386.1 3 rfl).trans ((hF19.1 3 rfl).trans ((hFx.1 3 rfl).trans (e_li))))))) (fk := fk2_639) (e_fk := show G635 16 = fk2_639 from (e648)) (tk0 := tk2_642) (e_tk0 := show G635 11 = tk2_642 from (e651))    (p_0 := by omega)) (fun o V' hq => ?_)
                    obtain ⟨G680, A681, ln2_682, fk2_683, rfl, rfl, hW684, hF685, e686, e687, q688⟩ := hq
                    have hF689 := Fr_tr hF677 hF685 (Fr_sub (by decide)) (Fr_sub (by decide))
                    have hP690 := Pf_f hP679 hF685 (by decide)
                    have bln2_682 : (0 : Int) ≤ ln2_682 ∧ ln2_682 ≤ 3000 := e686 ▸ hW684.1 9
                    have bfk2_683 : (0 : Int) ≤ fk2_683 ∧ fk2_683 ≤ 6 := e687 ▸ hW684.1 16
                    refine .inl ⟨rfl, ?_⟩
                    rcases q688 with ⟨a691, a692, a693, a694, a695⟩ | ⟨a696, a697⟩
                    · have _q : True := trivial
                      exfalso
                      omega
                    · have _q : True := trivial
                      refine jx_ld (pc' := 364) (l' := L) (st' := [.int (i32 (one))]) rfl (jl_iloadn gL_1) ?_
                      refine jx_rt (v := some (.int (i32 (one)))) rfl rfl rfl rfl rfl rfl ?_
                      exact ⟨_, _, _, at2_638, fk2_683, nd2_641, ln2_682, rfl, rfl, hW684, hF689, hP690, by omega, ((hF685.1 10 rfl).trans (e647)), (e687), ((hF685.1 31 rfl).trans (e650)), (e686), by omega, by omega, by omega, by omega, by omega, by first | exact Or.inl (⟨by omega, by omega, by omega⟩) | exact Or.inr ((⟨by omega, by omega, by omega, by omega, by omega⟩))⟩
                  · have _q : True := trivial
                    exfalso
                    omega
                  · have _q : True := trivial
                    exfalso
                    omega
                · have _q : True := trivial
                  refine jx_ld (pc' := 349) (l' := L) (st' := [.ref 66]) rfl (jl_aloadn gL_0) ?_
                  refine jr_get (pc' := 352) (i := 36) (v := .ref 86) rfl rfl (by decide) rfl rfl ?_
                  refine jx_ld (pc' := 353) (l' := L) (st' := [.int (i32 (one)), .ref 86]) rfl (jl_iloadn gL_1) ?_
                  refine jx_ld (pc' := 354) (l' := L) (st' := [.ref 66, .int (i32 (one)), .ref 86]) rfl (jl_aloadn gL_0) ?_
                  refine jx_ar (pc' := 355) (st' := [.int (i32 (0)), .ref 66, .int (i32 (one)), .ref 86]) rfl rfl rfl rfl ?_
                  refine jx_vr (pc' := 358) (as := [.int (i32 (0))]) (st := [.int (i32 (one)), .ref 86]) rfl rfl rfl rfl ⟨rfl, rfl, Nat.le_of_ble_eq_true rfl⟩ rfl rfl (c_readReference (dd := d) (hd := by omega) (hW := hW617) (ch := 0) (ln := ln) (e_ln := show G612 9 = ln from ((hF618.1 9 rfl).trans ((hF386.1 9 rfl).trans ((hF19.1 9 rfl).trans (fx_9))))) (le := le) (e_le := show A613 4 (ln).toNat = le from (congrFun ((hF618.2 4 rfl).trans (((congrFun eA600 4).trans (uA_ne (by decide))).trans ((hF386.2 4 rfl).trans ((hF19.2 4 rfl).trans (((congrFun eA1 4).trans (uA_ne (by decide))).trans (hFx.2 4 rfl)))))) _).trans (e_le)) (at0 := at2_614) (e_at0 := show G612 10 = at2_614 from (e619)) (fk := fk2_616) (e_fk := show G612 16 = fk2_616 from (e621)) (op0 := op2_382) (e_op0 := show G612 15 = op2_382 from ((hF618.1 15 rfl).trans (e391))) (nd := nd2_383) (e_nd := show G612 31 = nd2_383 from ((hF618.1 31 rfl).trans (e392))) (tk0 := tk2_615) (e_tk0 := show G612 11 = tk2_615 from (e620))  (h_ch := ⟨(by decide), (by decide)⟩)  (p_0 := by omega) (p_1 := by omega) (p_2 := by omega) (p_3 := by omega) (p_4 := by omega)) (fun o V' hq => ?_)
                  obtain ⟨G698, A699, r700, at2_701, fk2_702, op2_703, nd2_704, tk2_705, rfl, rfl, hW706, hF707, hQ708, b709, e710, e711, e712, e713, e714, p715, p716, p717, p718, p719, p720, q721⟩ := hq
                  have hF722 := Fr_tr hF625 hF707 (Fr_sub (by decide)) (Fr_sub (by decide))
                  have k723 : A699 17 (one).toNat = e := (hQ708 17 _ rfl (by omega)).trans (show A613 17 (one).toNat = e from (congrFun ((hF618.2 17 rfl).trans ((congrFun eA600 17).trans (uA_ne (by decide)))) _).trans (k402))
                  have k724 : A699 18 (one).toNat = r379 := (hQ708 18 _ rfl (by omega)).trans (show A613 18 (one).toNat = r379 from (congrFun (hF618.2 18 rfl) _).trans (q603))
                  have hP725 := Pf_tr hP626 hQ708 (by omega)
                  have bat2_701 : (0 : Int) ≤ at2_701 ∧ at2_701 ≤ 3002 := e710 ▸ hW706.1 10
                  have bfk2_702 : (0 : Int) ≤ fk2_702 ∧ fk2_702 ≤ 6 := e711 ▸ hW706.1 16
                  have bop2_703 : (-2147483648 : Int) ≤ op2_703 ∧ op2_703 ≤ 2147483647 := e712 ▸ hW706.1 15
                  have bnd2_704 : (0 : Int) ≤ nd2_704 ∧ nd2_704 ≤ 6999 := e713 ▸ hW706.1 31
                  have ztk2_705 := tz_b tk2_705
                  have btk2_705 : (0 : Int) ≤ tk2_705 ∧ tk2_705 ≤ 5 := e714 ▸ hW706.1 11
                  refine .inr ⟨_, rfl, ?_⟩
                  rcases q721 with ⟨a726, a727, a728, a729, a730, a731⟩ | ⟨a732, a733, a734⟩ | ⟨a735, a736, a737⟩
                  · have _q : True := trivial
                    exfalso
                    omega
                  · have _q : True := trivial
                    refine jr_st (pc' := 359) (i := 19) (m := 7000) (z := one) (y := r700) rfl (by decide) rfl (by decide) (by omega) (by omega) rfl ?_
                    have hW739 : Wk G698 (uA A699 19 (one).toNat (r700)) := Wk_a hW706 (show (-2147483648 : Int) ≤ r700 by omega) (show r700 ≤ (2147483647 : Int) by omega)
                    have hF740 := Fr_a (z := r700) (k := 19) (n := (one).toNat) hF722 (by decide)
                    obtain ⟨A738, eA738⟩ : ∃ q, q = uA A699 19 (one).toNat (r700) := ⟨_, rfl⟩
                    rw [← eA738]
                    rw [← eA738] at hW739 hF740
                    have q741 : A738 19 (one).toNat = r700 := by rw [eA738]; exact uA_eq
                    have hP742 : Pf nd A A738 := eA738 ▸ Pf_a hP725 (z := one) (by omega) (by omega)
                    refine jx_ld (pc' := 360) (l' := L) (st' := [.ref 66]) rfl (jl_aloadn gL_0) ?_
                    refine jx_vr (pc' := 363) (as := []) (st := []) rfl rfl rfl rfl ⟨rfl, rfl, Nat.le_of_ble_eq_true rfl⟩ rfl rfl (c_endLine (dd := d) (hd := by omega) (hW := hW739)  (ln := ln) (e_ln := show G698 9 = ln from ((hF707.1 9 rfl).trans ((hF618.1 9 rfl).trans ((hF386.1 9 rfl).trans ((hF19.1 9 rfl).trans (fx_9)))))) (li := li) (e_li := show G698 3 = li from ((hF707.1 3 rfl).trans ((hF618.1 3 rfl).trans ((hF386.1 3 rfl).trans ((hF19.1 3 rfl).trans ((hFx.1 3 rfl).trans (e_li))))))) (fk := fk2_702) (e_fk := show G698 16 = fk2_702 from (e711)) (tk0 := tk2_705) (e_tk0 := show G698 11 = tk2_705 from (e714))    (p_0 := by omega)) (fun o V' hq => ?_)
                    obtain ⟨G743, A744, ln2_745, fk2_746, rfl, rfl, hW747, hF748, e749, e750, q751⟩ := hq
                    have hF752 := Fr_tr hF740 hF748 (Fr_sub (by decide)) (Fr_sub (by decide))
                    have hP753 := Pf_f hP742 hF748 (by decide)
                    have bln2_745 : (0 : Int) ≤ ln2_745 ∧ ln2_745 ≤ 3000 := e749 ▸ hW747.1 9
                    have bfk2_746 : (0 : Int) ≤ fk2_746 ∧ fk2_746 ≤ 6 := e750 ▸ hW747.1 16
                    refine .inl ⟨rfl, ?_⟩
                    rcases q751 with ⟨a754, a755, a756, a757, a758⟩ | ⟨a759, a760⟩
                    · have _q : True := trivial
                      exfalso
                      omega
                    · have _q : True := trivial
                      refine jx_ld (pc' := 364) (l' := L) (st' := [.int (i32 (one))]) rfl (jl_iloadn gL_1) ?_
                      refine jx_rt (v := some (.int (i32 (one)))) rfl rfl rfl rfl rfl rfl ?_
                      exact ⟨_, _, _, at2_701, fk2_746, nd2_704, ln2_745, rfl, rfl, hW747, hF752, hP753, by omega, ((hF748.1 10 rfl).trans (e710)), (e750), ((hF748.1 31 rfl).trans (e713)), (e749), by omega, by omega, by omega, by omega, by omega, by first | exact Or.inl (⟨by omega, by omega, by omega⟩) | exact Or.inr ((⟨by omega, by omega, by omega, by omega, by omega⟩))⟩
                  · have _q : True := trivial
                    refine jr_st (pc' := 359) (i := 19) (m := 7000) (z := one) (y := r700) rfl (by decide) rfl (by decide) (by omega) (by omega) rfl ?_
                    have hW762 : Wk G698 (uA A699 19 (one).toNat (r700)) := Wk_a hW706 (show (-2147483648 : Int) ≤ r700 by omega) (show r700 ≤ (2147483647 : Int) by omega)
                    have hF763 := Fr_a (z := r700) (k := 19) (n := (one).toNat) hF722 (by decide)
                    obtain ⟨A761, eA761⟩ : ∃ q, q = uA A699 19 (one).toNat (r700) := ⟨_, rfl⟩
                    rw [← eA761]
                    rw [← eA761] at hW762 hF763
                    have q764 : A761 19 (one).toNat = r700 := by rw [eA761]; exact uA_eq
                    have hP765 : Pf nd A A761 := eA761 ▸ Pf_a hP725 (z := one) (by omega) (by omega)
                    refine jx_ld (pc' := 360) (l' := L) (st' := [.ref 66]) rfl (jl_aloadn gL_0) ?_
                    refine jx_vr (pc' := 363) (as := []) (st := []) rfl rfl rfl rfl ⟨rfl, rfl, Nat.le_of_ble_eq_true rfl⟩ rfl rfl (c_endLine (dd := d) (hd := by omega) (hW := hW762)  (ln := ln) (e_ln := show G698 9 = ln from ((hF707.1 9 rfl).trans ((hF618.1 9 rfl).trans ((hF386.1 9 rfl).trans ((hF19.1 9 rfl).trans (fx_9)))))) (li := li) (e_li := show G698 3 = li from ((hF707.1 3 rfl).trans ((hF618.1 3 rfl).trans ((hF386.1 3 rfl).trans ((hF19.1 3 rfl).trans ((hFx.1 3 rfl).trans (e_li))))))) (fk := fk2_702) (e_fk := show G698 16 = fk2_702 from (e711)) (tk0 := tk2_705) (e_tk0 := show G698 11 = tk2_705 from (e714))    (p_0 := by omega)) (fun o V' hq => ?_)
                    obtain ⟨G766, A767, ln2_768, fk2_769, rfl, rfl, hW770, hF771, e772, e773, q774⟩ := hq
                    have hF775 := Fr_tr hF763 hF771 (Fr_sub (by decide)) (Fr_sub (by decide))
                    have hP776 := Pf_f hP765 hF771 (by decide)
                    have bln2_768 : (0 : Int) ≤ ln2_768 ∧ ln2_768 ≤ 3000 := e772 ▸ hW770.1 9
                    have bfk2_769 : (0 : Int) ≤ fk2_769 ∧ fk2_769 ≤ 6 := e773 ▸ hW770.1 16
                    refine .inl ⟨rfl, ?_⟩
                    rcases q774 with ⟨a777, a778, a779, a780, a781⟩ | ⟨a782, a783⟩
                    · have _q : True := trivial
                      refine jx_ld (pc' := 364) (l' := L) (st' := [.int (i32 (one))]) rfl (jl_iloadn gL_1) ?_
                      refine jx_rt (v := some (.int (i32 (one)))) rfl rfl rfl rfl rfl rfl ?_
                      exact ⟨_, _, _, at2_701, fk2_769, nd2_704, ln2_768, rfl, rfl, hW770, hF775, hP776, by omega, ((hF771.1 10 rfl).trans (e710)), (e773), ((hF771.1 31 rfl).trans (e713)), (e772), by omega, by omega, by omega, by omega, by omega, by first | exact Or.inl (⟨by omega, by omega, by omega⟩) | exact Or.inr ((⟨by omega, by omega, by omega, by omega, by omega⟩))⟩
                    · have _q : True := trivial
                      refine jx_ld (pc' := 364) (l' := L) (st' := [.int (i32 (one))]) rfl (jl_iloadn gL_1) ?_
                      refine jx_rt (v := some (.int (i32 (one)))) rfl rfl rfl rfl rfl rfl ?_
                      exact ⟨_, _, _, at2_701, fk2_769, nd2_704, ln2_768, rfl, rfl, hW770, hF775, hP776, by omega, ((hF771.1 10 rfl).trans (e710)), (e773), ((hF771.1 31 rfl).trans (e713)), (e772), by omega, by omega, by omega, by omega, by omega, by first | exact Or.inl (⟨by omega, by omega, by omega⟩) | exact Or.inr ((⟨by omega, by omega, by omega, by omega, by omega⟩))⟩
              · have _q : True := trivial
                refine jx_vr (pc' := 348) (as := [.int (i32 (0))]) (st := []) rfl rfl rfl rfl ⟨rfl, rfl, Nat.le_of_ble_eq_true rfl⟩ rfl rfl (c_need (dd := d) (hd := by omega) (hW := hW601) (g := 0) (ln := ln) (e_ln := show G377 9 = ln from ((hF386.1 9 rfl).trans ((hF19.1 9 rfl).trans (fx_9)))) (le := le) (e_le := show A600 4 (ln).toNat = le from (congrFun (((congrFun eA600 4).trans (uA_ne (by decide))).trans ((hF386.2 4 rfl).trans ((hF19.2 4 rfl).trans (((congrFun eA1 4).trans (uA_ne (by decide))).trans (hFx.2 4 rfl))))) _).trans (e_le)) (at0 := at2_380) (e_at0 := show G377 10 = at2_380 from (e389)) (fk := fk2_381) (e_fk := show G377 16 = fk2_381 from (e390)) (tk0 := tk2_384) (e_tk0 := show G377 11 = tk2_384 from (e393))  (h_g := ⟨(by decide), (by decide)⟩)  (p_0 := by omega)) (fun o V' hq => ?_)
                obtain ⟨G784, A785, at2_786, tk2_787, fk2_788, rfl, rfl, hW789, hF790, e791, e792, e793, p794, p795, q796⟩ := hq
                have hF797 := Fr_tr hF602 hF790 (Fr_sub (by decide)) (Fr_sub (by decide))
                have hP798 := Pf_f hP604 hF790 (by decide)
                have bat2_786 : (0 : Int) ≤ at2_786 ∧ at2_786 ≤ 3002 := e791 ▸ hW789.1 10
                have ztk2_787 := tz_b tk2_787
                have btk2_787 : (0 : Int) ≤ tk2_787 ∧ tk2_787 ≤ 5 := e792 ▸ hW789.1 11
                have bfk2_788 : (0 : Int) ≤ fk2_788 ∧ fk2_788 ≤ 6 := e793 ▸ hW789.1 16
                refine .inl ⟨rfl, ?_⟩
                rcases q796 with ⟨a799, a800, a801, a802⟩ | ⟨a803, a804, a805, a806⟩
                · have _q : True := trivial
                  refine jx_ld (pc' := 349) (l' := L) (st' := [.ref 66]) rfl (jl_aloadn gL_0) ?_
                  refine jr_get (pc' := 352) (i := 36) (v := .ref 86) rfl rfl (by decide) rfl rfl ?_
                  refine jx_ld (pc' := 353) (l' := L) (st' := [.int (i32 (one)), .ref 86]) rfl (jl_iloadn gL_1) ?_
                  refine jx_ld (pc' := 354) (l' := L) (st' := [.ref 66, .int (i32 (one)), .ref 86]) rfl (jl_aloadn gL_0) ?_
                  refine jx_ar (pc' := 355) (st' := [.int (i32 (0)), .ref 66, .int (i32 (one)), .ref 86]) rfl rfl rfl rfl ?_
                  refine jx_vr (pc' := 358) (as := [.int (i32 (0))]) (st := [.int (i32 (one)), .ref 86]) rfl rfl rfl rfl ⟨rfl, rfl, Nat.le_of_ble_eq_true rfl⟩ rfl rfl (c_readReference (dd := d) (hd := by omega) (hW := hW789) (ch := 0) (ln := ln) (e_ln := show G784 9 = ln from ((hF790.1 9 rfl).trans ((hF386.1 9 rfl).trans ((hF19.1 9 rfl).trans (fx_9))))) (le := le) (e_le := show A785 4 (ln).toNat = le from (congrFun ((hF790.2 4 rfl).trans (((congrFun eA600 4).trans (uA_ne (by decide))).trans ((hF386.2 4 rfl).trans ((hF19.2 4 rfl).trans (((congrFun eA1 4).trans (uA_ne (by decide))).trans (hFx.2 4 rfl)))))) _).trans (e_le)) (at0 := at2_786) (e_at0 := show G784 10 = at2_786 from (e791)) (fk := fk2_788) (e_fk := show G784 16 = fk2_788 from (e793)) (op0 := op2_382) (e_op0 := show G784 15 = op2_382 from ((hF790.1 15 rfl).trans (e391))) (nd := nd2_383) (e_nd := show G784 31 = nd2_383 from ((hF790.1 31 rfl).trans (e392))) (tk0 := tk2_787) (e_tk0 := show G784 11 = tk2_787 from (e792))  (h_ch := ⟨(by decide), (by decide)⟩)  (p_0 := by omega) (p_1 := by omega) (p_2 := by omega) (p_3 := by omega) (p_4 := by omega)) (fun o V' hq => ?_)
                  obtain ⟨G807, A808, r809, at2_810, fk2_811, op2_812, nd2_813, tk2_814, rfl, rfl, hW815, hF816, hQ817, b818, e819, e820, e821, e822, e823, p824, p825, p826, p827, p828, p829, q830⟩ := hq
                  have hF831 := Fr_tr hF797 hF816 (Fr_sub (by decide)) (Fr_sub (by decide))
                  have k832 : A808 17 (one).toNat = e := (hQ817 17 _ rfl (by omega)).trans (show A785 17 (one).toNat = e from (congrFun ((hF790.2 17 rfl).trans ((congrFun eA600 17).trans (uA_ne (by decide)))) _).trans (k402))
                  have k833 : A808 18 (one).toNat = r379 := (hQ817 18 _ rfl (by omega)).trans (show A785 18 (one).toNat = r379 from (congrFun (hF790.2 18 rfl) _).trans (q603))
                  have hP834 := Pf_tr hP798 hQ817 (by omega)
                  have bat2_810 : (0 : Int) ≤ at2_810 ∧ at2_810 ≤ 3002 := e819 ▸ hW815.1 10
                  have bfk2_811 : (0 : Int) ≤ fk2_811 ∧ fk2_811 ≤ 6 := e820 ▸ hW815.1 16
                  have bop2_812 : (-2147483648 : Int) ≤ op2_812 ∧ op2_812 ≤ 2147483647 := e821 ▸ hW815.1 15
                  have bnd2_813 : (0 : Int) ≤ nd2_813 ∧ nd2_813 ≤ 6999 := e822 ▸ hW815.1 31
                  have ztk2_814 := tz_b tk2_814
                  have btk2_814 : (0 : Int) ≤ tk2_814 ∧ tk2_814 ≤ 5 := e823 ▸ hW815.1 11
                  refine .inr ⟨_, rfl, ?_⟩
                  rcases q830 with ⟨a835, a836, a837, a838, a839, a840⟩ | ⟨a841, a842, a843⟩ | ⟨a844, a845, a846⟩
                  · have _q : True := trivial
                    refine jr_st (pc' := 359) (i := 19) (m := 7000) (z := one) (y := r809) rfl (by decide) rfl (by decide) (by omega) (by omega) rfl ?_
                    have hW848 : Wk G807 (uA A808 19 (one).toNat (r809)) := Wk_a hW815 (show (-2147483648 : Int) ≤ r809 by omega) (show r809 ≤ (2147483647 : Int) by omega)
                    have hF849 := Fr_a (z := r809) (k := 19) (n := (one).toNat) hF831 (by decide)
                    obtain ⟨A847, eA847⟩ : ∃ q, q = uA A808 19 (one).toNat (r809) := ⟨_, rfl⟩
                    rw [← eA847]
                    rw [← eA847] at hW848 hF849
                    have q850 : A847 19 (one).toNat = r809 := by rw [eA847]; exact uA_eq
                    have hP851 : Pf nd A A847 := eA847 ▸ Pf_a hP834 (z := one) (by omega) (by omega)
                    refine jx_ld (pc' := 360) (l' := L) (st' := [.ref 66]) rfl (jl_aloadn gL_0) ?_
                    refine jx_vr (pc' := 363) (as := []) (st := []) rfl rfl rfl rfl ⟨rfl, rfl, Nat.le_of_ble_eq_true rfl⟩ rfl rfl (c_endLine (dd := d) (hd := by omega) (hW := hW848)  (ln := ln) (e_ln := show G807 9 = ln from ((hF816.1 9 rfl).trans ((hF790.1 9 rfl).trans ((hF386.1 9 rfl).trans ((hF19.1 9 rfl).trans (fx_9)))))) (li := li) (e_li := show G807 3 = li from ((hF816.1 3 rfl).trans ((hF790.1 3 rfl).trans ((hF386.1 3 rfl).trans ((hF19.1 3 rfl).trans ((hFx.1 3 rfl).trans (e_li))))))) (fk := fk2_811) (e_fk := show G807 16 = fk2_811 from (e820)) (tk0 := tk2_814) (e_tk0 := show G807 11 = tk2_814 from (e823))    (p_0 := by omega)) (fun o V' hq => ?_)
                    obtain ⟨G852, A853, ln2_854, fk2_855, rfl, rfl, hW856, hF857, e858, e859, q860⟩ := hq
                    have hF861 := Fr_tr hF849 hF857 (Fr_sub (by decide)) (Fr_sub (by decide))
                    have hP862 := Pf_f hP851 hF857 (by decide)
                    have bln2_854 : (0 : Int) ≤ ln2_854 ∧ ln2_854 ≤ 3000 := e858 ▸ hW856.1 9
                    have bfk2_855 : (0 : Int) ≤ fk2_855 ∧ fk2_855 ≤ 6 := e859 ▸ hW856.1 16
                    refine .inl ⟨rfl, ?_⟩
                    rcases q860 with ⟨a863, a864, a865, a866, a867⟩ | ⟨a868, a869⟩
                    · have _q : True := trivial
                      exfalso
                      omega
                    · have _q : True := trivial
                      refine jx_ld (pc' := 364) (l' := L) (st' := [.int (i32 (one))]) rfl (jl_iloadn gL_1) ?_
                      refine jx_rt (v := some (.int (i32 (one)))) rfl rfl rfl rfl rfl rfl ?_
                      exact ⟨_, _, _, at2_810, fk2_855, nd2_813, ln2_854, rfl, rfl, hW856, hF861, hP862, by omega, ((hF857.1 10 rfl).trans (e819)), (e859), ((hF857.1 31 rfl).trans (e822)), (e858), by omega, by omega, by omega, by omega, by omega, by first | exact Or.inl (⟨by omega, by omega, by omega⟩) | exact Or.inr ((⟨by omega, by omega, by omega, by omega, by omega⟩))⟩
                  · have _q : True := trivial
                    exfalso
                    omega
                  · have _q : True := trivial
                    exfalso
                    omega
                · have _q : True := trivial
                  exfalso
                  omega
          · have _q := h376
            exact absurd h376 (by omega)
    · have _q : True := trivial
      refine jx_vr (pc' := 310) (as := [.int (i32 (0))]) (st := []) rfl rfl rfl rfl ⟨rfl, rfl, Nat.le_of_ble_eq_true rfl⟩ rfl rfl (c_need (dd := d) (hd := by omega) (hW := hW2) (g := 0) (ln := ln) (e_ln := show Gx 9 = ln from (fx_9)) (le := le) (e_le := show A1 4 (ln).toNat = le from (congrFun (((congrFun eA1 4).trans (uA_ne (by decide))).trans (hFx.2 4 rfl)) _).trans (e_le)) (at0 := at1) (e_at0 := show Gx 10 = at1 from (ex_at1)) (fk := fk1) (e_fk := show Gx 16 = fk1 from (ex_fk1)) (tk0 := tk1) (e_tk0 := show Gx 11 = tk1 from (ex_tk1))  (h_g := ⟨(by decide), (by decide)⟩)  (p_0 := by omega)) (fun o V' hq => ?_)
      obtain ⟨G870, A871, at2_872, tk2_873, fk2_874, rfl, rfl, hW875, hF876, e877, e878, e879, p880, p881, q882⟩ := hq
      have hF883 := Fr_tr hF3 hF876 (Fr_sub (by decide)) (Fr_sub (by decide))
      have hP884 := Pf_f hP5 hF876 (by decide)
      have bat2_872 : (0 : Int) ≤ at2_872 ∧ at2_872 ≤ 3002 := e877 ▸ hW875.1 10
      have ztk2_873 := tz_b tk2_873
      have btk2_873 : (0 : Int) ≤ tk2_873 ∧ tk2_873 ≤ 5 := e878 ▸ hW875.1 11
      have bfk2_874 : (0 : Int) ≤ fk2_874 ∧ fk2_874 ≤ 6 := e879 ▸ hW875.1 16
      refine .inl ⟨rfl, ?_⟩
      rcases q882 with ⟨a885, a886, a887, a888⟩ | ⟨a889, a890, a891, a892⟩
      · have _q : True := trivial
        refine jx_ld (pc' := 311) (l' := L) (st' := [.ref 66]) rfl (jl_aloadn gL_0) ?_
        refine jx_ar (pc' := 313) (st' := [.int (i32 (7)), .ref 66]) rfl rfl rfl rfl ?_
        have b893 : (-2147483648 : Int) ≤ G870 13 ∧ G870 13 ≤ 2147483647 := hW875.1 13
        refine jx_vr (pc' := 316) (as := [.int (i32 (7))]) (st := []) rfl rfl rfl rfl ⟨rfl, rfl, Nat.le_of_ble_eq_true rfl⟩ rfl rfl (c_isKey (dd := d) (hd := by omega) (hW := hW875) (k := 7) (tk := tk2_873) (e_tk := show G870 11 = tk2_873 from (e878)) (tn := G870 13) (e_tn := show G870 13 = G870 13 from rfl)  (h_k := ⟨(by decide), (by decide)⟩)  ) (fun o V' hq => ?_)
        obtain ⟨r894, rfl, rfl, b895, q896⟩ := hq
        refine .inr ⟨_, rfl, ?_⟩
        rcases q896 with ⟨rfl, a897, a898, a899⟩ | rfl
        · have _q : True := trivial
          refine jx_if_eq (pc' := 319) (tg := 327) rfl rfl rfl (by decide) (by decide) (fun h900 => ?_) (fun h900 => ?_)
          · have _q := h900
            exact absurd h900 (by omega)
          · have _q := h900
            refine jx_ld (pc' := 320) (l' := L) (st' := [.ref 66]) rfl (jl_aloadn gL_0) ?_
            refine jx_ar (pc' := 321) (st' := [.int (i32 (1)), .ref 66]) rfl rfl rfl rfl ?_
            refine jx_vr (pc' := 324) (as := [.int (i32 (1))]) (st := []) rfl rfl rfl rfl ⟨rfl, rfl, Nat.le_of_ble_eq_true rfl⟩ rfl rfl (c_need (dd := d) (hd := by omega) (hW := hW875) (g := 1) (ln := ln) (e_ln := show G870 9 = ln from ((hF876.1 9 rfl).trans (fx_9))) (le := le) (e_le := show A871 4 (ln).toNat = le from (congrFun ((hF876.2 4 rfl).trans (((congrFun eA1 4).trans (uA_ne (by decide))).trans (hFx.2 4 rfl))) _).trans (e_le)) (at0 := at2_872) (e_at0 := show G870 10 = at2_872 from (e877)) (fk := fk2_874) (e_fk := show G870 16 = fk2_874 from (e879)) (tk0 := tk2_873) (e_tk0 := show G870 11 = tk2_873 from (e878))  (h_g := ⟨(by decide), (by decide)⟩)  (p_0 := by omega)) (fun o V' hq => ?_)
            obtain ⟨G901, A902, at2_903, tk2_904, fk2_905, rfl, rfl, hW906, hF907, e908, e909, e910, p911, p912, q913⟩ := hq
            have hF914 := Fr_tr hF883 hF907 (Fr_sub (by decide)) (Fr_sub (by decide))
            have hP915 := Pf_f hP884 hF907 (by decide)
            have bat2_903 : (0 : Int) ≤ at2_903 ∧ at2_903 ≤ 3002 := e908 ▸ hW906.1 10
            have ztk2_904 := tz_b tk2_904
            have btk2_904 : (0 : Int) ≤ tk2_904 ∧ tk2_904 ≤ 5 := e909 ▸ hW906.1 11
            have bfk2_905 : (0 : Int) ≤ fk2_905 ∧ fk2_905 ≤ 6 := e910 ▸ hW906.1 16
            refine .inl ⟨rfl, ?_⟩
            rcases q913 with ⟨a916, a917, a918, a919⟩ | ⟨a920, a921, a922, a923⟩
            · have _q : True := trivial
              refine jx_go (tg := 359) rfl rfl ?_
              refine jx_ld (pc' := 360) (l' := L) (st' := [.ref 66]) rfl (jl_aloadn gL_0) ?_
              refine jx_vr (pc' := 363) (as := []) (st := []) rfl rfl rfl rfl ⟨rfl, rfl, Nat.le_of_ble_eq_true rfl⟩ rfl rfl (c_endLine (dd := d) (hd := by omega) (hW := hW906)  (ln := ln) (e_ln := show G901 9 = ln from ((hF907.1 9 rfl).trans ((hF876.1 9 rfl).trans (fx_9)))) (li := li) (e_li := show G901 3 = li from ((hF907.1 3 rfl).trans ((hF876.1 3 rfl).trans ((hFx.1 3 rfl).trans (e_li))))) (fk := fk2_905) (e_fk := show G901 16 = fk2_905 from (e910)) (tk0 := tk2_904) (e_tk0 := show G901 11 = tk2_904 from (e909))    (p_0 := by omega)) (fun o V' hq => ?_)
              obtain ⟨G924, A925, ln2_926, fk2_927, rfl, rfl, hW928, hF929, e930, e931, q932⟩ := hq
              have hF933 := Fr_tr hF914 hF929 (Fr_sub (by decide)) (Fr_sub (by decide))
              have hP934 := Pf_f hP915 hF929 (by decide)
              have bln2_926 : (0 : Int) ≤ ln2_926 ∧ ln2_926 ≤ 3000 := e930 ▸ hW928.1 9
              have bfk2_927 : (0 : Int) ≤ fk2_927 ∧ fk2_927 ≤ 6 := e931 ▸ hW928.1 16
              refine .inl ⟨rfl, ?_⟩
              rcases q932 with ⟨a935, a936, a937, a938, a939⟩ | ⟨a940, a941⟩
              · have _q : True := trivial
                exfalso
                omega
              · have _q : True := trivial
                refine jx_ld (pc' := 364) (l' := L) (st' := [.int (i32 (one))]) rfl (jl_iloadn gL_1) ?_
                refine jx_rt (v := some (.int (i32 (one)))) rfl rfl rfl rfl rfl rfl ?_
                exact ⟨_, _, _, at2_903, fk2_927, nd1, ln2_926, rfl, rfl, hW928, hF933, hP934, by omega, ((hF929.1 10 rfl).trans (e908)), (e931), ((hF929.1 31 rfl).trans ((hF907.1 31 rfl).trans ((hF876.1 31 rfl).trans (ex_nd1)))), (e930), by omega, by omega, by omega, by omega, by omega, by first | exact Or.inl (⟨by omega, by omega, by omega⟩) | exact Or.inr ((⟨by omega, by omega, by omega, by omega, by omega⟩))⟩
            · have _q : True := trivial
              exfalso
              omega
        · have _q : True := trivial
          refine jx_if_eq (pc' := 319) (tg := 327) rfl rfl rfl (by decide) (by decide) (fun h942 => ?_) (fun h942 => ?_)
          · have _q := h942
            refine jx_ld (pc' := 328) (l' := L) (st' := [.ref 66]) rfl (jl_aloadn gL_0) ?_
            refine jr_get (pc' := 331) (i := 35) (v := .ref 85) rfl rfl (by decide) rfl rfl ?_
            refine jx_ld (pc' := 332) (l' := L) (st' := [.int (i32 (one)), .ref 85]) rfl (jl_iloadn gL_1) ?_
            refine jx_ld (pc' := 333) (l' := L) (st' := [.ref 66, .int (i32 (one)), .ref 85]) rfl (jl_aloadn gL_0) ?_
            refine jx_ar (pc' := 334) (st' := [.int (i32 (1)), .ref 66, .int (i32 (one)), .ref 85]) rfl rfl rfl rfl ?_
            refine jx_vr (pc' := 337) (as := [.int (i32 (1))]) (st := [.int (i32 (one)), .ref 85]) rfl rfl rfl rfl ⟨rfl, rfl, Nat.le_of_ble_eq_true rfl⟩ rfl rfl (c_readReference (dd := d) (hd := by omega) (hW := hW875) (ch := 1) (ln := ln) (e_ln := show G870 9 = ln from ((hF876.1 9 rfl).trans (fx_9))) (le := le) (e_le := show A871 4 (ln).toNat = le from (congrFun ((hF876.2 4 rfl).trans (((congrFun eA1 4).trans (uA_ne (by decide))).trans (hFx.2 4 rfl))) _).trans (e_le)) (at0 := at2_872) (e_at0 := show G870 10 = at2_872 from (e877)) (fk := fk2_874) (e_fk := show G870 16 = fk2_874 from (e879)) (op0 := op1) (e_op0 := show G870 15 = op1 from ((hF876.1 15 rfl).trans (ex_op1))) (nd := nd1) (e_nd := show G870 31 = nd1 from ((hF876.1 31 rfl).trans (ex_nd1))) (tk0 := tk2_873) (e_tk0 := show G870 11 = tk2_873 from (e878))  (h_ch := ⟨(by decide), (by decide)⟩)  (p_0 := by omega) (p_1 := by omega) (p_2 := by omega) (p_3 := by omega) (p_4 := by omega)) (fun o V' hq => ?_)
            obtain ⟨G943, A944, r945, at2_946, fk2_947, op2_948, nd2_949, tk2_950, rfl, rfl, hW951, hF952, hQ953, b954, e955, e956, e957, e958, e959, p960, p961, p962, p963, p964, p965, q966⟩ := hq
            have hF967 := Fr_tr hF883 hF952 (Fr_sub (by decide)) (Fr_sub (by decide))
            have k968 : A944 17 (one).toNat = e := (hQ953 17 _ rfl (by omega)).trans (show A871 17 (one).toNat = e from (congrFun (hF876.2 17 rfl) _).trans (q4))
            have hP969 := Pf_tr hP884 hQ953 (by omega)
            have bat2_946 : (0 : Int) ≤ at2_946 ∧ at2_946 ≤ 3002 := e955 ▸ hW951.1 10
            have bfk2_947 : (0 : Int) ≤ fk2_947 ∧ fk2_947 ≤ 6 := e956 ▸ hW951.1 16
            have bop2_948 : (-2147483648 : Int) ≤ op2_948 ∧ op2_948 ≤ 2147483647 := e957 ▸ hW951.1 15
            have bnd2_949 : (0 : Int) ≤ nd2_949 ∧ nd2_949 ≤ 6999 := e958 ▸ hW951.1 31
            have ztk2_950 := tz_b tk2_950
            have btk2_950 : (0 : Int) ≤ tk2_950 ∧ tk2_950 ≤ 5 := e959 ▸ hW951.1 11
            refine .inr ⟨_, rfl, ?_⟩
            rcases q966 with ⟨a970, a971, a972, a973, a974, a975⟩ | ⟨a976, a977, a978⟩ | ⟨a979, a980, a981⟩
            · have _q : True := trivial
              refine jr_st (pc' := 338) (i := 18) (m := 7000) (z := one) (y := r945) rfl (by decide) rfl (by decide) (by omega) (by omega) rfl ?_
              have hW983 : Wk G943 (uA A944 18 (one).toNat (r945)) := Wk_a hW951 (show (-2147483648 : Int) ≤ r945 by omega) (show r945 ≤ (2147483647 : Int) by omega)
              have hF984 := Fr_a (z := r945) (k := 18) (n := (one).toNat) hF967 (by decide)
              obtain ⟨A982, eA982⟩ : ∃ q, q = uA A944 18 (one).toNat (r945) := ⟨_, rfl⟩
              rw [← eA982]
              rw [← eA982] at hW983 hF984
              have q985 : A982 18 (one).toNat = r945 := by rw [eA982]; exact uA_eq
              have hP986 : Pf nd A A982 := eA982 ▸ Pf_a hP969 (z := one) (by omega) (by omega)
              refine jx_ld (pc' := 339) (l' := L) (st' := [.ref 66]) rfl (jl_aloadn gL_0) ?_
              refine jx_ld (pc' := 340) (l' := L) (st' := [.ref 66, .ref 66]) rfl (jl_aloadn gL_0) ?_
              refine jx_ar (pc' := 342) (st' := [.int (i32 (63)), .ref 66, .ref 66]) rfl rfl rfl rfl ?_
              have b987 : (-2147483648 : Int) ≤ G943 13 ∧ G943 13 ≤ 2147483647 := hW951.1 13
              refine jx_vr (pc' := 345) (as := [.int (i32 (63))]) (st := [.ref 66]) rfl rfl rfl rfl ⟨rfl, rfl, Nat.le_of_ble_eq_true rfl⟩ rfl rfl (c_is (dd := d) (hd := by omega) (hW := hW983) (k := 63) (tk := tk2_950) (e_tk := show G943 11 = tk2_950 from (e959)) (tn := G943 13) (e_tn := show G943 13 = G943 13 from rfl)  (h_k := ⟨(by decide), (by decide)⟩)  ) (fun o V' hq => ?_)
              obtain ⟨r988, rfl, rfl, b989, q990⟩ := hq
              refine .inr ⟨_, rfl, ?_⟩
              rcases q990 with ⟨rfl, a991, a992, a993⟩ | rfl
              · have _q : True := trivial
                refine jx_vr (pc' := 348) (as := [.int (i32 (1))]) (st := []) rfl rfl rfl rfl ⟨rfl, rfl, Nat.le_of_ble_eq_true rfl⟩ rfl rfl (c_need (dd := d) (hd := by omega) (hW := hW983) (g := 1) (ln := ln) (e_ln := show G943 9 = ln from ((hF952.1 9 rfl).trans ((hF876.1 9 rfl).trans (fx_9)))) (le := le) (e_le := show A982 4 (ln).toNat = le from (congrFun (((congrFun eA982 4).trans (uA_ne (by decide))).trans ((hF952.2 4 rfl).trans ((hF876.2 4 rfl).trans (((congrFun eA1 4).trans (uA_ne (by decide))).trans (hFx.2 4 rfl))))) _).trans (e_le)) (at0 := at2_946) (e_at0 := show G943 10 = at2_946 from (e955)) (fk := fk2_947) (e_fk := show G943 16 = fk2_947 from (e956)) (tk0 := tk2_950) (e_tk0 := show G943 11 = tk2_950 from (e959))  (h_g := ⟨(by decide), (by decide)⟩)  (p_0 := by omega)) (fun o V' hq => ?_)
                obtain ⟨G994, A995, at2_996, tk2_997, fk2_998, rfl, rfl, hW999, hF1000, e1001, e1002, e1003, p1004, p1005, q1006⟩ := hq
                have hF1007 := Fr_tr hF984 hF1000 (Fr_sub (by decide)) (Fr_sub (by decide))
                have hP1008 := Pf_f hP986 hF1000 (by decide)
                have bat2_996 : (0 : Int) ≤ at2_996 ∧ at2_996 ≤ 3002 := e1001 ▸ hW999.1 10
                have ztk2_997 := tz_b tk2_997
                have btk2_997 : (0 : Int) ≤ tk2_997 ∧ tk2_997 ≤ 5 := e1002 ▸ hW999.1 11
                have bfk2_998 : (0 : Int) ≤ fk2_998 ∧ fk2_998 ≤ 6 := e1003 ▸ hW999.1 16
                refine .inl ⟨rfl, ?_⟩
                rcases q1006 with ⟨a1009, a1010, a1011, a1012⟩ | ⟨a1013, a1014, a1015, a1016⟩
                · have _q : True := trivial
                  refine jx_ld (pc' := 349) (l' := L) (st' := [.ref 66]) rfl (jl_aloadn gL_0) ?_
                  refine jr_get (pc' := 352) (i := 36) (v := .ref 86) rfl rfl (by decide) rfl rfl ?_
                  refine jx_ld (pc' := 353) (l' := L) (st' := [.int (i32 (one)), .ref 86]) rfl (jl_iloadn gL_1) ?_
                  refine jx_ld (pc' := 354) (l' := L) (st' := [.ref 66, .int (i32 (one)), .ref 86]) rfl (jl_aloadn gL_0) ?_
                  refine jx_ar (pc' := 355) (st' := [.int (i32 (0)), .ref 66, .int (i32 (one)), .ref 86]) rfl rfl rfl rfl ?_
                  refine jx_vr (pc' := 358) (as := [.int (i32 (0))]) (st := [.int (i32 (one)), .ref 86]) rfl rfl rfl rfl ⟨rfl, rfl, Nat.le_of_ble_eq_true rfl⟩ rfl rfl (c_readReference (dd := d) (hd := by omega) (hW := hW999) (ch := 0) (ln := ln) (e_ln := show G994 9 = ln from ((hF1000.1 9 rfl).trans ((hF952.1 9 rfl).trans ((hF876.1 9 rfl).trans (fx_9))))) (le := le) (e_le := show A995 4 (ln).toNat = le from (congrFun ((hF1000.2 4 rfl).trans (((congrFun eA982 4).trans (uA_ne (by decide))).trans ((hF952.2 4 rfl).trans ((hF876.2 4 rfl).trans (((congrFun eA1 4).trans (uA_ne (by decide))).trans (hFx.2 4 rfl)))))) _).trans (e_le)) (at0 := at2_996) (e_at0 := show G994 10 = at2_996 from (e1001)) (fk := fk2_998) (e_fk := show G994 16 = fk2_998 from (e1003)) (op0 := op2_948) (e_op0 := show G994 15 = op2_948 from ((hF1000.1 15 rfl).trans (e957))) (nd := nd2_949) (e_nd := show G994 31 = nd2_949 from ((hF1000.1 31 rfl).trans (e958))) (tk0 := tk2_997) (e_tk0 := show G994 11 = tk2_997 from (e1002))  (h_ch := ⟨(by decide), (by decide)⟩)  (p_0 := by omega) (p_1 := by omega) (p_2 := by omega) (p_3 := by omega) (p_4 := by omega)) (fun o V' hq => ?_)
                  obtain ⟨G1017, A1018, r1019, at2_1020, fk2_1021, op2_1022, nd2_1023, tk2_1024, rfl, rfl, hW1025, hF1026, hQ1027, b1028, e1029, e1030, e1031, e1032, e1033, p1034, p1035, p1036, p1037, p1038, p1039, q1040⟩ := hq
                  have hF1041 := Fr_tr hF1007 hF1026 (Fr_sub (by decide)) (Fr_sub (by decide))
                  have k1042 : A1018 17 (one).toNat = e := (hQ1027 17 _ rfl (by omega)).trans (show A995 17 (one).toNat = e from (congrFun ((hF1000.2 17 rfl).trans ((congrFun eA982 17).trans (uA_ne (by decide)))) _).trans (k968))
                  have k1043 : A1018 18 (one).toNat = r945 := (hQ1027 18 _ rfl (by omega)).trans (show A995 18 (one).toNat = r945 from (congrFun (hF1000.2 18 rfl) _).trans (q985))
                  have hP1044 := Pf_tr hP1008 hQ1027 (by omega)
                  have bat2_1020 : (0 : Int) ≤ at2_1020 ∧ at2_1020 ≤ 3002 := e1029 ▸ hW1025.1 10
                  have bfk2_1021 : (0 : Int) ≤ fk2_1021 ∧ fk2_1021 ≤ 6 := e1030 ▸ hW1025.1 16
                  have bop2_1022 : (-2147483648 : Int) ≤ op2_1022 ∧ op2_1022 ≤ 2147483647 := e1031 ▸ hW1025.1 15
                  have bnd2_1023 : (0 : Int) ≤ nd2_1023 ∧ nd2_1023 ≤ 6999 := e1032 ▸ hW1025.1 31
                  have ztk2_1024 := tz_b tk2_1024
                  have btk2_1024 : (0 : Int) ≤ tk2_1024 ∧ tk2_1024 ≤ 5 := e1033 ▸ hW1025.1 11
                  refine .inr ⟨_, rfl, ?_⟩
                  rcases q1040 with ⟨a1045, a1046, a1047, a1048, a1049, a1050⟩ | ⟨a1051, a1052, a1053⟩ | ⟨a1054, a1055, a1056⟩
                  · have _q : True := trivial
                    refine jr_st (pc' := 359) (i := 19) (m := 7000) (z := one) (y := r1019) rfl (by decide) rfl (by decide) (by omega) (by omega) rfl ?_
                    have hW1058 : Wk G1017 (uA A1018 19 (one).toNat (r1019)) := Wk_a hW1025 (show (-2147483648 : Int) ≤ r1019 by omega) (show r1019 ≤ (2147483647 : Int) by omega)
                    have hF1059 := Fr_a (z := r1019) (k := 19) (n := (one).toNat) hF1041 (by decide)
                    obtain ⟨A1057, eA1057⟩ : ∃ q, q = uA A1018 19 (one).toNat (r1019) := ⟨_, rfl⟩
                    rw [← eA1057]
                    rw [← eA1057] at hW1058 hF1059
                    have q1060 : A1057 19 (one).toNat = r1019 := by rw [eA1057]; exact uA_eq
                    have hP1061 : Pf nd A A1057 := eA1057 ▸ Pf_a hP1044 (z := one) (by omega) (by omega)
                    refine jx_ld (pc' := 360) (l' := L) (st' := [.ref 66]) rfl (jl_aloadn gL_0) ?_
                    refine jx_vr (pc' := 363) (as := []) (st := []) rfl rfl rfl rfl ⟨rfl, rfl, Nat.le_of_ble_eq_true rfl⟩ rfl rfl (c_endLine (dd := d) (hd := by omega) (hW := hW1058)  (ln := ln) (e_ln := show G1017 9 = ln from ((hF1026.1 9 rfl).trans ((hF1000.1 9 rfl).trans ((hF952.1 9 rfl).trans ((hF876.1 9 rfl).trans (fx_9)))))) (li := li) (e_li := show G1017 3 = li from ((hF1026.1 3 rfl).trans ((hF1000.1 3 rfl).trans ((hF952.1 3 rfl).trans ((hF876.1 3 rfl).trans ((hFx.1 3 rfl).trans (e_li))))))) (fk := fk2_1021) (e_fk := show G1017 16 = fk2_1021 from (e1030)) (tk0 := tk2_1024) (e_tk0 := show G1017 11 = tk2_1024 from (e1033))    (p_0 := by omega)) (fun o V' hq => ?_)
                    obtain ⟨G1062, A1063, ln2_1064, fk2_1065, rfl, rfl, hW1066, hF1067, e1068, e1069, q1070⟩ := hq
                    have hF1071 := Fr_tr hF1059 hF1067 (Fr_sub (by decide)) (Fr_sub (by decide))
                    have hP1072 := Pf_f hP1061 hF1067 (by decide)
                    have bln2_1064 : (0 : Int) ≤ ln2_1064 ∧ ln2_1064 ≤ 3000 := e1068 ▸ hW1066.1 9
                    have bfk2_1065 : (0 : Int) ≤ fk2_1065 ∧ fk2_1065 ≤ 6 := e1069 ▸ hW1066.1 16
                    refine .inl ⟨rfl, ?_⟩
                    rcases q1070 with ⟨a1073, a1074, a1075, a1076, a1077⟩ | ⟨a1078, a1079⟩
                    · have _q : True := trivial
                      exfalso
                      omega
                    · have _q : True := trivial
                      refine jx_ld (pc' := 364) (l' := L) (st' := [.int (i32 (one))]) rfl (jl_iloadn gL_1) ?_
                      refine jx_rt (v := some (.int (i32 (one)))) rfl rfl rfl rfl rfl rfl ?_
                      exact ⟨_, _, _, at2_1020, fk2_1065, nd2_1023, ln2_1064, rfl, rfl, hW1066, hF1071, hP1072, by omega, ((hF1067.1 10 rfl).trans (e1029)), (e1069), ((hF1067.1 31 rfl).trans (e1032)), (e1068), by omega, by omega, by omega, by omega, by omega, by first | exact Or.inl (⟨by omega, by omega, by omega⟩) | exact Or.inr ((⟨by omega, by omega, by omega, by omega, by omega⟩))⟩
                  · have _q : True := trivial
                    exfalso
                    omega
                  · have _q : True := trivial
                    exfalso
                    omega
                · have _q : True := trivial
                  exfalso
                  omega
              · have _q : True := trivial
                refine jx_vr (pc' := 348) (as := [.int (i32 (0))]) (st := []) rfl rfl rfl rfl ⟨rfl, rfl, Nat.le_of_ble_eq_true rfl⟩ rfl rfl (c_need (dd := d) (hd := by omega) (hW := hW983) (g := 0) (ln := ln) (e_ln := show G943 9 = ln from ((hF952.1 9 rfl).trans ((hF876.1 9 rfl).trans (fx_9)))) (le := le) (e_le := show A982 4 (ln).toNat = le from (congrFun (((congrFun eA982 4).trans (uA_ne (by decide))).trans ((hF952.2 4 rfl).trans ((hF876.2 4 rfl).trans (((congrFun eA1 4).trans (uA_ne (by decide))).trans (hFx.2 4 rfl))))) _).trans (e_le)) (at0 := at2_946) (e_at0 := show G943 10 = at2_946 from (e955)) (fk := fk2_947) (e_fk := show G943 16 = fk2_947 from (e956)) (tk0 := tk2_950) (e_tk0 := show G943 11 = tk2_950 from (e959))  (h_g := ⟨(by decide), (by decide)⟩)  (p_0 := by omega)) (fun o V' hq => ?_)
                obtain ⟨G1080, A1081, at2_1082, tk2_1083, fk2_1084, rfl, rfl, hW1085, hF1086, e1087, e1088, e1089, p1090, p1091, q1092⟩ := hq
                have hF1093 := Fr_tr hF984 hF1086 (Fr_sub (by decide)) (Fr_sub (by decide))
                have hP1094 := Pf_f hP986 hF1086 (by decide)
                have bat2_1082 : (0 : Int) ≤ at2_1082 ∧ at2_1082 ≤ 3002 := e1087 ▸ hW1085.1 10
                have ztk2_1083 := tz_b tk2_1083
                have btk2_1083 : (0 : Int) ≤ tk2_1083 ∧ tk2_1083 ≤ 5 := e1088 ▸ hW1085.1 11
                have bfk2_1084 : (0 : Int) ≤ fk2_1084 ∧ fk2_1084 ≤ 6 := e1089 ▸ hW1085.1 16
                refine .inl ⟨rfl, ?_⟩
                rcases q1092 with ⟨a1095, a1096, a1097, a1098⟩ | ⟨a1099, a1100, a1101, a1102⟩
                · have _q : True := trivial
                  refine jx_ld (pc' := 349) (l' := L) (st' := [.ref 66]) rfl (jl_aloadn gL_0) ?_
                  refine jr_get (pc' := 352) (i := 36) (v := .ref 86) rfl rfl (by decide) rfl rfl ?_
                  refine jx_ld (pc' := 353) (l' := L) (st' := [.int (i32 (one)), .ref 86]) rfl (jl_iloadn gL_1) ?_
                  refine jx_ld (pc' := 354) (l' := L) (st' := [.ref 66, .int (i32 (one)), .ref 86]) rfl (jl_aloadn gL_0) ?_
                  refine jx_ar (pc' := 355) (st' := [.int (i32 (0)), .ref 66, .int (i32 (one)), .ref 86]) rfl rfl rfl rfl ?_
                  refine jx_vr (pc' := 358) (as := [.int (i32 (0))]) (st := [.int (i32 (one)), .ref 86]) rfl rfl rfl rfl ⟨rfl, rfl, Nat.le_of_ble_eq_true rfl⟩ rfl rfl (c_readReference (dd := d) (hd := by omega) (hW := hW1085) (ch := 0) (ln := ln) (e_ln := show G1080 9 = ln from ((hF1086.1 9 rfl).trans ((hF952.1 9 rfl).trans ((hF876.1 9 rfl).trans (fx_9))))) (le := le) (e_le := show A1081 4 (ln).toNat = le from (congrFun ((hF1086.2 4 rfl).trans (((congrFun eA982 4).trans (uA_ne (by decide))).trans ((hF952.2 4 rfl).trans ((hF876.2 4 rfl).trans (((congrFun eA1 4).trans (uA_ne (by decide))).trans (hFx.2 4 rfl)))))) _).trans (e_le)) (at0 := at2_1082) (e_at0 := show G1080 10 = at2_1082 from (e1087)) (fk := fk2_1084) (e_fk := show G1080 16 = fk2_1084 from (e1089)) (op0 := op2_948) (e_op0 := show G1080 15 = op2_948 from ((hF1086.1 15 rfl).trans (e957))) (nd := nd2_949) (e_nd := show G1080 31 = nd2_949 from ((hF1086.1 31 rfl).trans (e958))) (tk0 := tk2_1083) (e_tk0 := show G1080 11 = tk2_1083 from (e1088))  (h_ch := ⟨(by decide), (by decide)⟩)  (p_0 := by omega) (p_1 := by omega) (p_2 := by omega) (p_3 := by omega) (p_4 := by omega)) (fun o V' hq => ?_)
                  obtain ⟨G1103, A1104, r1105, at2_1106, fk2_1107, op2_1108, nd2_1109, tk2_1110, rfl, rfl, hW1111, hF1112, hQ1113, b1114, e1115, e1116, e1117, e1118, e1119, p1120, p1121, p1122, p1123, p1124, p1125, q1126⟩ := hq
                  have hF1127 := Fr_tr hF1093 hF1112 (Fr_sub (by decide)) (Fr_sub (by decide))
                  have k1128 : A1104 17 (one).toNat = e := (hQ1113 17 _ rfl (by omega)).trans (show A1081 17 (one).toNat = e from (congrFun ((hF1086.2 17 rfl).trans ((congrFun eA982 17).trans (uA_ne (by decide)))) _).trans (k968))
                  have k1129 : A1104 18 (one).toNat = r945 := (hQ1113 18 _ rfl (by omega)).trans (show A1081 18 (one).toNat = r945 from (congrFun (hF1086.2 18 rfl) _).trans (q985))
                  have hP1130 := Pf_tr hP1094 hQ1113 (by omega)
                  have bat2_1106 : (0 : Int) ≤ at2_1106 ∧ at2_1106 ≤ 3002 := e1115 ▸ hW1111.1 10
                  have bfk2_1107 : (0 : Int) ≤ fk2_1107 ∧ fk2_1107 ≤ 6 := e1116 ▸ hW1111.1 16
                  have bop2_1108 : (-2147483648 : Int) ≤ op2_1108 ∧ op2_1108 ≤ 2147483647 := e1117 ▸ hW1111.1 15
                  have bnd2_1109 : (0 : Int) ≤ nd2_1109 ∧ nd2_1109 ≤ 6999 := e1118 ▸ hW1111.1 31
                  have ztk2_1110 := tz_b tk2_1110
                  have btk2_1110 : (0 : Int) ≤ tk2_1110 ∧ tk2_1110 ≤ 5 := e1119 ▸ hW1111.1 11
                  refine .inr ⟨_, rfl, ?_⟩
                  rcases q1126 with ⟨a1131, a1132, a1133, a1134, a1135, a1136⟩ | ⟨a1137, a1138, a1139⟩ | ⟨a1140, a1141, a1142⟩
                  · have _q : True := trivial
                    refine jr_st (pc' := 359) (i := 19) (m := 7000) (z := one) (y := r1105) rfl (by decide) rfl (by decide) (by omega) (by omega) rfl ?_
                    have hW1144 : Wk G1103 (uA A1104 19 (one).toNat (r1105)) := Wk_a hW1111 (show (-2147483648 : Int) ≤ r1105 by omega) (show r1105 ≤ (2147483647 : Int) by omega)
                    have hF1145 := Fr_a (z := r1105) (k := 19) (n := (one).toNat) hF1127 (by decide)
                    obtain ⟨A1143, eA1143⟩ : ∃ q, q = uA A1104 19 (one).toNat (r1105) := ⟨_, rfl⟩
                    rw [← eA1143]
                    rw [← eA1143] at hW1144 hF1145
                    have q1146 : A1143 19 (one).toNat = r1105 := by rw [eA1143]; exact uA_eq
                    have hP1147 : Pf nd A A1143 := eA1143 ▸ Pf_a hP1130 (z := one) (by omega) (by omega)
                    refine jx_ld (pc' := 360) (l' := L) (st' := [.ref 66]) rfl (jl_aloadn gL_0) ?_
                    refine jx_vr (pc' := 363) (as := []) (st := []) rfl rfl rfl rfl ⟨rfl, rfl, Nat.le_of_ble_eq_true rfl⟩ rfl rfl (c_endLine (dd := d) (hd := by omega) (hW := hW1144)  (ln := ln) (e_ln := show G1103 9 = ln from ((hF1112.1 9 rfl).trans ((hF1086.1 9 rfl).trans ((hF952.1 9 rfl).trans ((hF876.1 9 rfl).trans (fx_9)))))) (li := li) (e_li := show G1103 3 = li from ((hF1112.1 3 rfl).trans ((hF1086.1 3 rfl).trans ((hF952.1 3 rfl).trans ((hF876.1 3 rfl).trans ((hFx.1 3 rfl).trans (e_li))))))) (fk := fk2_1107) (e_fk := show G1103 16 = fk2_1107 from (e1116)) (tk0 := tk2_1110) (e_tk0 := show G1103 11 = tk2_1110 from (e1119))    (p_0 := by omega)) (fun o V' hq => ?_)
                    obtain ⟨G1148, A1149, ln2_1150, fk2_1151, rfl, rfl, hW1152, hF1153, e1154, e1155, q1156⟩ := hq
                    have hF1157 := Fr_tr hF1145 hF1153 (Fr_sub (by decide)) (Fr_sub (by decide))
                    have hP1158 := Pf_f hP1147 hF1153 (by decide)
                    have bln2_1150 : (0 : Int) ≤ ln2_1150 ∧ ln2_1150 ≤ 3000 := e1154 ▸ hW1152.1 9
                    have bfk2_1151 : (0 : Int) ≤ fk2_1151 ∧ fk2_1151 ≤ 6 := e1155 ▸ hW1152.1 16
                    refine .inl ⟨rfl, ?_⟩
                    rcases q1156 with ⟨a1159, a1160, a1161, a1162, a1163⟩ | ⟨a1164, a1165⟩
                    · have _q : True := trivial
                      exfalso
                      omega
                    · have _q : True := trivial
                      refine jx_ld (pc' := 364) (l' := L) (st' := [.int (i32 (one))]) rfl (jl_iloadn gL_1) ?_
                      refine jx_rt (v := some (.int (i32 (one)))) rfl rfl rfl rfl rfl rfl ?_
                      exact ⟨_, _, _, at2_1106, fk2_1151, nd2_1109, ln2_1150, rfl, rfl, hW1152, hF1157, hP1158, by omega, ((hF1153.1 10 rfl).trans (e1115)), (e1155), ((hF1153.1 31 rfl).trans (e1118)), (e1154), by omega, by omega, by omega, by omega, by omega, by first | exact Or.inl (⟨by omega, by omega, by omega⟩) | exact Or.inr ((⟨by omega, by omega, by omega, by omega, by omega⟩))⟩
                  · have _q : True := trivial
                    exfalso
                    omega
                  · have _q : True := trivial
                    exfalso
                    omega
                · have _q : True := trivial
                  exfalso
                  omega
            · have _q : True := trivial
              exfalso
              omega
            · have _q : True := trivial
              exfalso
              omega
          · have _q := h942
            exact absurd h942 (by omega)
      · have _q : True := trivial
        exfalso
        omega
  have at_222 : ∀ (L : jL) (Gx : Nat → Int) (Ax : Nat → Nat → Int) (one s ix row ch at1 tk1 fk1 nd1 op1 : Int), jGet L 0 = some (.ref 66) → jGet L 1 = some (.int (i32 one)) → jGet L 4 = some (.int (i32 s)) → jGet L 5 = some (.int (i32 ix)) → jGet L 6 = some (.int (i32 row)) → jGet L 7 = some (.int (i32 ch)) → Wk Gx Ax → Fr [9, 10, 11, 12, 13, 14, 15, 16, 17, 18, 31] [15, 16, 17, 18, 19, 20, 21, 22, 24, 28] G A Gx Ax → Pf nd A Ax → Gx 10 = at1 → Gx 11 = tk1 → Gx 16 = fk1 → Gx 31 = nd1 → Gx 15 = op1 → Gx 9 = ln → ((-2147483648 : Int) ≤ one ∧ one ≤ 2147483647) → ((-2147483648 : Int) ≤ s ∧ s ≤ 2147483647) → ((-2147483648 : Int) ≤ ix ∧ ix ≤ 2147483647) → ((-2147483648 : Int) ≤ row ∧ row ≤ 2147483647) → ((-2147483648 : Int) ≤ ch ∧ ch ≤ 2147483647) → (at0 ≤ at1) → (at1 ≤ le) → (nd ≤ nd1) → (op1 = op0) → (nd ≤ one ∧ one ≤ 6998 ∧ one < nd1) → (fk1 = 0) → (nd1 - nd ≤ (2 * at1 - tz tk1) - (2 * at0 - tz tk0)) → (0 ≤ row ∧ row ≤ 1) → (0 ≤ ch ∧ ch ≤ 1) → (ch = 0 ∨ tz tk1 = 1) → wj X d jm303 (222, L, [], rV c0 c1 Gx Ax T) (fun o V' => ∃ (G' : Nat → Int) (A' : Nat → Nat → Int) (r : Int) (at2 : Int) (fk2 : Int) (nd2 : Int) (ln2 : Int), V' = rV c0 c1 G' A' T ∧ o = .inl (some (.int (i32 r))) ∧ Wk G' A' ∧ Fr [9, 10, 11, 12, 13, 14, 15, 16, 17, 18, 31] [15, 16, 17, 18, 19, 20, 21, 22, 24, 28] G A G' A' ∧ Pf nd A A' ∧ ((-2147483648 : Int) ≤ r ∧ r ≤ 2147483647) ∧ G' 10 = at2 ∧ G' 16 = fk2 ∧ G' 31 = nd2 ∧ G' 9 = ln2 ∧ (at0 ≤ at2) ∧ (at2 ≤ le) ∧ (nd ≤ nd2) ∧ (0 ≤ r) ∧ (r ≤ nd2) ∧ (((1 ≤ fk2) ∧ (ln2 = ln) ∧ (nd2 - nd ≤ 2 * at2 - 2 * at0 + 12)) ∨ ((fk2 = 0) ∧ (ln2 = ln + 1) ∧ (nd2 - nd ≤ 2 * at2 - (2 * at0 - tz tk0) + 0) ∧ (nd ≤ r) ∧ (r < nd2)))) := by
    intro L Gx Ax one s ix row ch at1 tk1 fk1 nd1 op1 gL_0 gL_1 gL_4 gL_5 gL_6 gL_7 hWx hFx hPx ex_at1 ex_tk1 ex_fk1 ex_nd1 ex_op1 fx_9 rx_one rx_s rx_ix rx_row rx_ch iv_0 iv_1 iv_2 iv_3 iv_4 iv_5 iv_6 iv_7 iv_8 iv_9
    have b_at1 : (0 : Int) ≤ at1 ∧ at1 ≤ 3002 := ex_at1 ▸ hWx.1 10
    have z_tk1 := tz_f tk1
    have b_tk1 : (0 : Int) ≤ tk1 ∧ tk1 ≤ 5 := ex_tk1 ▸ hWx.1 11
    have b_fk1 : (0 : Int) ≤ fk1 ∧ fk1 ≤ 6 := ex_fk1 ▸ hWx.1 16
    have b_nd1 : (0 : Int) ≤ nd1 ∧ nd1 ≤ 6999 := ex_nd1 ▸ hWx.1 31
    have b_op1 : (-2147483648 : Int) ≤ op1 ∧ op1 ≤ 2147483647 := ex_op1 ▸ hWx.1 15
    refine jx_ld (pc' := 223) (l' := L) (st' := [.ref 66]) rfl (jl_aloadn gL_0) ?_
    refine jx_ld (pc' := 225) (l' := L) (st' := [.int (i32 (row)), .ref 66]) rfl (jl_iload gL_6) ?_
    refine jx_if_eq (pc' := 228) (tg := 232) rfl rfl rfl (Int.le_trans (by decide : (-2147483648 : Int) ≤ -2147483648) rx_row.1) (Int.le_trans rx_row.2 (by decide : (2147483647 : Int) ≤ 2147483647)) (fun h1166 => ?_) (fun h1166 => ?_)
    · have _q := h1166
      refine jx_ar (pc' := 233) (st' := [.int (i32 (2)), .ref 66]) rfl rfl rfl rfl ?_
      refine jx_ld (pc' := 235) (l' := L) (st' := [.int (i32 (s)), .int (i32 (2)), .ref 66]) rfl (jl_iload gL_4) ?_
      refine jx_ld (pc' := 237) (l' := L) (st' := [.int (i32 (ix)), .int (i32 (s)), .int (i32 (2)), .ref 66]) rfl (jl_iload gL_5) ?_
      refine jx_ar (pc' := 238) (st' := [.int (i32 (0)), .int (i32 (ix)), .int (i32 (s)), .int (i32 (2)), .ref 66]) rfl rfl rfl rfl ?_
      refine jx_ar (pc' := 239) (st' := [.int (i32 (0)), .int (i32 (0)), .int (i32 (ix)), .int (i32 (s)), .int (i32 (2)), .ref 66]) rfl rfl rfl rfl ?_
      refine jx_vr (pc' := 242) (as := [.int (i32 (2)), .int (i32 (s)), .int (i32 (ix)), .int (i32 (0)), .int (i32 (0))]) (st := []) rfl rfl rfl rfl ⟨rfl, rfl, Nat.le_of_ble_eq_true rfl⟩ rfl rfl (c_node (dd := d) (hd := by omega) (hW := hWx) (kind := 2) (a := s) (b := ix) (c := 0) (e := 0) (nd := nd1) (e_nd := show Gx 31 = nd1 from (ex_nd1))  (h_kind := ⟨(by decide), (by decide)⟩) (h_a := ⟨(Int.le_trans (by decide : (-2147483648 : Int) ≤ -2147483648) rx_s.1), (Int.le_trans rx_s.2 (by decide : (2147483647 : Int) ≤ 2147483647))⟩) (h_b := ⟨(Int.le_trans (by decide : (-2147483648 : Int) ≤ -2147483648) rx_ix.1), (Int.le_trans rx_ix.2 (by decide : (2147483647 : Int) ≤ 2147483647))⟩) (h_c := ⟨(by decide), (by decide)⟩) (h_e := ⟨(by decide), (by decide)⟩)  (p_0 := by omega) (p_1 := by omega)) (fun o V' hq => ?_)
      obtain ⟨G1167, A1168, nd2_1169, rfl, rfl, hW1170, hF1171, hQ1172, e1173, p1174, -⟩ := hq
      have hF1176 := Fr_tr hFx hF1171 (Fr_sub (by decide)) (Fr_sub (by decide))
      have hP1177 := Pf_tr hPx hQ1172 (by omega)
      have bnd2_1169 : (0 : Int) ≤ nd2_1169 ∧ nd2_1169 ≤ 6999 := e1173 ▸ hW1170.1 31
      refine .inr ⟨_, rfl, ?_⟩
      refine jx_ld (pc' := 244) (l' := jSto1 L 10 (.int (i32 (nd1)))) (st' := []) rfl rfl ?_
      obtain ⟨L1178, eL1178⟩ : ∃ q, q = jSto1 L 10 (.int (i32 (nd1))) := ⟨_, rfl⟩
      rw [← eL1178]
      have gL1178_0 : jGet L1178 0 = some (.ref 66) := eL1178 ▸ jg_ne (by decide) gL_0 rfl
      have gL1178_1 : jGet L1178 1 = some (.int (i32 (one))) := eL1178 ▸ jg_ne (by decide) gL_1 rfl
      have gL1178_4 : jGet L1178 4 = some (.int (i32 (s))) := eL1178 ▸ jg_ne (by decide) gL_4 rfl
      have gL1178_5 : jGet L1178 5 = some (.int (i32 (ix))) := eL1178 ▸ jg_ne (by decide) gL_5 rfl
      have gL1178_6 : jGet L1178 6 = some (.int (i32 (row))) := eL1178 ▸ jg_ne (by decide) gL_6 rfl
      have gL1178_7 : jGet L1178 7 = some (.int (i32 (ch))) := eL1178 ▸ jg_ne (by decide) gL_7 rfl
      have gL1178_10 : jGet L1178 10 = some (.int (i32 (nd1))) := eL1178 ▸ jg_eq
      refine jx_ld (pc' := 246) (l' := L1178) (st' := [.int (i32 (ch))]) rfl (jl_iload gL1178_7) ?_
      refine jx_if_eq (pc' := 249) (tg := 278) rfl rfl rfl (Int.le_trans (by decide : (-2147483648 : Int) ≤ -2147483648) rx_ch.1) (Int.le_trans rx_ch.2 (by decide : (2147483647 : Int) ≤ 2147483647)) (fun h1179 => ?_) (fun h1179 => ?_)
      · have _q := h1179
        refine jx_ld (pc' := 279) (l' := L1178) (st' := [.ref 66]) rfl (jl_aloadn gL1178_0) ?_
        refine jx_ld (pc' := 281) (l' := L1178) (st' := [.int (i32 (nd1)), .ref 66]) rfl (jl_iload gL1178_10) ?_
        refine jx_vr (pc' := 284) (as := [.int (i32 (nd1))]) (st := []) rfl rfl rfl rfl ⟨rfl, rfl, Nat.le_of_ble_eq_true rfl⟩ rfl rfl (c_readRest (dd := d) (k := 9) (hE := RE_all X 9) (hd := by omega) (hW := hW1170) (x := nd1) (ln := ln) (e_ln := show G1167 9 = ln from ((hF1171.1 9 rfl).trans (fx_9))) (le := le) (e_le := show A1168 4 (ln).toNat = le from (congrFun ((hF1171.2 4 rfl).trans (hFx.2 4 rfl)) _).trans (e_le)) (at0 := at1) (e_at0 := show G1167 10 = at1 from ((hF1171.1 10 rfl).trans (ex_at1))) (fk := fk1) (e_fk := show G1167 16 = fk1 from ((hF1171.1 16 rfl).trans (ex_fk1))) (op0 := op1) (e_op0 := show G1167 15 = op1 from ((hF1171.1 15 rfl).trans (ex_op1))) (nd := nd2_1169) (e_nd := show G1167 31 = nd2_1169 from (e1173)) (tk0 := tk1) (e_tk0 := show G1167 11 = tk1 from ((hF1171.1 11 rfl).trans (ex_tk1)))  (h_x := ⟨(Int.le_trans (by decide : (-2147483648 : Int) ≤ 0) b_nd1.1), (Int.le_trans b_nd1.2 (by decide : (6999 : Int) ≤ 2147483647))⟩)  (p_0 := by omega) (p_1 := by omega) (p_2 := by omega) (p_3 := by omega) (p_4 := by omega) (p_5 := by omega) (p_6 := by omega) (p_7 := by omega)) (fun o V' hq => ?_)
        obtain ⟨G1180, A1181, r1182, at2_1183, fk2_1184, op2_1185, nd2_1186, tk2_1187, rfl, rfl, hW1188, hF1189, hQ1190, b1191, e1192, e1193, e1194, e1195, e1196, p1197, p1198, p1199, p1200, p1201, p1202, q1203⟩ := hq
        have hF1204 := Fr_tr hF1176 hF1189 (Fr_sub (by decide)) (Fr_sub (by decide))
        have hP1205 := Pf_tr hP1177 hQ1190 (by omega)
        have bat2_1183 : (0 : Int) ≤ at2_1183 ∧ at2_1183 ≤ 3002 := e1192 ▸ hW1188.1 10
        have bfk2_1184 : (0 : Int) ≤ fk2_1184 ∧ fk2_1184 ≤ 6 := e1193 ▸ hW1188.1 16
        have bop2_1185 : (-2147483648 : Int) ≤ op2_1185 ∧ op2_1185 ≤ 2147483647 := e1194 ▸ hW1188.1 15
        have bnd2_1186 : (0 : Int) ≤ nd2_1186 ∧ nd2_1186 ≤ 6999 := e1195 ▸ hW1188.1 31
        have ztk2_1187 := tz_b tk2_1187
        have btk2_1187 : (0 : Int) ≤ tk2_1187 ∧ tk2_1187 ≤ 5 := e1196 ▸ hW1188.1 11
        refine .inr ⟨_, rfl, ?_⟩
        rcases q1203 with ⟨a1206, a1207, a1208, a1209, a1210, a1211⟩ | ⟨a1212, a1213, a1214⟩ | ⟨a1215, a1216, a1217⟩
        · have _q : True := trivial
          exfalso
          omega
        · have _q : True := trivial
          refine jx_ld (pc' := 285) (l' := jSto1 L1178 2 (.int (i32 (r1182)))) (st' := []) rfl rfl ?_
          obtain ⟨L1218, eL1218⟩ : ∃ q, q = jSto1 L1178 2 (.int (i32 (r1182))) := ⟨_, rfl⟩
          rw [← eL1218]
          have gL1218_0 : jGet L1218 0 = some (.ref 66) := eL1218 ▸ jg_ne (by decide) gL1178_0 rfl
          have gL1218_1 : jGet L1218 1 = some (.int (i32 (one))) := eL1218 ▸ jg_ne (by decide) gL1178_1 rfl
          have gL1218_4 : jGet L1218 4 = some (.int (i32 (s))) := eL1218 ▸ jg_ne (by decide) gL1178_4 rfl
          have gL1218_5 : jGet L1218 5 = some (.int (i32 (ix))) := eL1218 ▸ jg_ne (by decide) gL1178_5 rfl
          have gL1218_6 : jGet L1218 6 = some (.int (i32 (row))) := eL1218 ▸ jg_ne (by decide) gL1178_6 rfl
          have gL1218_7 : jGet L1218 7 = some (.int (i32 (ch))) := eL1218 ▸ jg_ne (by decide) gL1178_7 rfl
          have gL1218_10 : jGet L1218 10 = some (.int (i32 (nd1))) := eL1218 ▸ jg_ne (by decide) gL1178_10 rfl
          have gL1218_2 : jGet L1218 2 = some (.int (i32 (r1182))) := eL1218 ▸ jg_eq
          refine jx_go (tg := 293) rfl rfl ?_
          have z1219 := tz_f (tk2_1187)
          exact at_293 L1218 G1180 A1181 (one) (r1182) (at2_1183) (tk2_1187) (fk2_1184) (nd2_1186) (op2_1185) gL1218_0 gL1218_1 gL1218_2 hW1188 hF1204 hP1205 ((e1192)) ((e1196)) ((e1193)) ((e1195)) ((e1194)) (((hF1189.1 9 rfl).trans ((hF1171.1 9 rfl).trans (fx_9)))) (by omega) (by omega) (by omega) (by omega) (by omega) (by omega) (by omega) (by omega) (by omega)
        · have _q : True := trivial
          refine jx_ld (pc' := 285) (l' := jSto1 L1178 2 (.int (i32 (r1182)))) (st' := []) rfl rfl ?_
          obtain ⟨L1220, eL1220⟩ : ∃ q, q = jSto1 L1178 2 (.int (i32 (r1182))) := ⟨_, rfl⟩
          rw [← eL1220]
          have gL1220_0 : jGet L1220 0 = some (.ref 66) := eL1220 ▸ jg_ne (by decide) gL1178_0 rfl
          have gL1220_1 : jGet L1220 1 = some (.int (i32 (one))) := eL1220 ▸ jg_ne (by decide) gL1178_1 rfl
          have gL1220_4 : jGet L1220 4 = some (.int (i32 (s))) := eL1220 ▸ jg_ne (by decide) gL1178_4 rfl
          have gL1220_5 : jGet L1220 5 = some (.int (i32 (ix))) := eL1220 ▸ jg_ne (by decide) gL1178_5 rfl
          have gL1220_6 : jGet L1220 6 = some (.int (i32 (row))) := eL1220 ▸ jg_ne (by decide) gL1178_6 rfl
          have gL1220_7 : jGet L1220 7 = some (.int (i32 (ch))) := eL1220 ▸ jg_ne (by decide) gL1178_7 rfl
          have gL1220_10 : jGet L1220 10 = some (.int (i32 (nd1))) := eL1220 ▸ jg_ne (by decide) gL1178_10 rfl
          have gL1220_2 : jGet L1220 2 = some (.int (i32 (r1182))) := eL1220 ▸ jg_eq
          refine jx_go (tg := 293) rfl rfl ?_
          have z1221 := tz_f (tk2_1187)
          exact at_293 L1220 G1180 A1181 (one) (r1182) (at2_1183) (tk2_1187) (fk2_1184) (nd2_1186) (op2_1185) gL1220_0 gL1220_1 gL1220_2 hW1188 hF1204 hP1205 ((e1192)) ((e1196)) ((e1193)) ((e1195)) ((e1194)) (((hF1189.1 9 rfl).trans ((hF1171.1 9 rfl).trans (fx_9)))) (by omega) (by omega) (by omega) (by omega) (by omega) (by omega) (by omega) (by omega) (by omega)
      · have _q := h1179
        refine jx_ld (pc' := 250) (l' := L1178) (st' := [.ref 66]) rfl (jl_aloadn gL1178_0) ?_
        refine jr_get (pc' := 253) (i := 35) (v := .ref 85) rfl rfl (by decide) rfl rfl ?_
        refine jx_ld (pc' := 254) (l' := L1178) (st' := [.int (i32 (one)), .ref 85]) rfl (jl_iloadn gL1178_1) ?_
        refine jx_ld (pc' := 256) (l' := L1178) (st' := [.int (i32 (nd1)), .int (i32 (one)), .ref 85]) rfl (jl_iload gL1178_10) ?_
        refine jr_st (pc' := 257) (i := 18) (m := 7000) (z := one) (y := nd1) rfl (by decide) rfl (by decide) (by omega) (by omega) rfl ?_
        have hW1223 : Wk G1167 (uA A1168 18 (one).toNat (nd1)) := Wk_a hW1170 (show (-2147483648 : Int) ≤ nd1 by omega) (show nd1 ≤ (2147483647 : Int) by omega)
        have hF1224 := Fr_a (z := nd1) (k := 18) (n := (one).toNat) hF1176 (by decide)
        obtain ⟨A1222, eA1222⟩ : ∃ q, q = uA A1168 18 (one).toNat (nd1) := ⟨_, rfl⟩
        rw [← eA1222]
        rw [← eA1222] at hW1223 hF1224
        have q1225 : A1222 18 (one).toNat = nd1 := by rw [eA1222]; exact uA_eq
        have hP1226 : Pf nd A A1222 := eA1222 ▸ Pf_a hP1177 (z := one) (by omega) (by omega)
        refine jx_ld (pc' := 258) (l' := L1178) (st' := [.ref 66]) rfl (jl_aloadn gL1178_0) ?_
        refine jx_vr (pc' := 261) (as := []) (st := []) rfl rfl rfl rfl ⟨rfl, rfl, Nat.le_of_ble_eq_true rfl⟩ rfl rfl (c_next (dd := d) (hd := by omega) (hW := hW1223)  (ln := ln) (e_ln := show G1167 9 = ln from ((hF1171.1 9 rfl).trans (fx_9))) (le := le) (e_le := show A1222 4 (ln).toNat = le from (congrFun (((congrFun eA1222 4).trans (uA_ne (by decide))).trans ((hF1171.2 4 rfl).trans (hFx.2 4 rfl))) _).trans (e_le)) (at0 := at1) (e_at0 := show G1167 10 = at1 from ((hF1171.1 10 rfl).trans (ex_at1)))    (p_0 := by omega)) (fun o V' hq => ?_)
        obtain ⟨G1227, A1228, at2_1229, tk2_1230, rfl, rfl, hW1231, hF1232, e1233, e1234, p1235, p1236, p1237, -⟩ := hq
        have hF1239 := Fr_tr hF1224 hF1232 (Fr_sub (by decide)) (Fr_sub (by decide))
        have hP1240 := Pf_f hP1226 hF1232 (by decide)
        have bat2_1229 : (0 : Int) ≤ at2_1229 ∧ at2_1229 ≤ 3002 := e1233 ▸ hW1231.1 10
        have ztk2_1230 := tz_b tk2_1230
        have btk2_1230 : (0 : Int) ≤ tk2_1230 ∧ tk2_1230 ≤ 5 := e1234 ▸ hW1231.1 11
        refine .inl ⟨rfl, ?_⟩
        refine jx_ld (pc' := 262) (l' := L1178) (st' := [.ref 66]) rfl (jl_aloadn gL1178_0) ?_
        refine jr_get (pc' := 265) (i := 36) (v := .ref 86) rfl rfl (by decide) rfl rfl ?_
        refine jx_ld (pc' := 266) (l' := L1178) (st' := [.int (i32 (one)), .ref 86]) rfl (jl_iloadn gL1178_1) ?_
        refine jx_ld (pc' := 267) (l' := L1178) (st' := [.ref 66, .int (i32 (one)), .ref 86]) rfl (jl_aloadn gL1178_0) ?_
        refine jx_ar (pc' := 268) (st' := [.int (i32 (0)), .ref 66, .int (i32 (one)), .ref 86]) rfl rfl rfl rfl ?_
        refine jx_vr (pc' := 271) (as := [.int (i32 (0))]) (st := [.int (i32 (one)), .ref 86]) rfl rfl rfl rfl ⟨rfl, rfl, Nat.le_of_ble_eq_true rfl⟩ rfl rfl (c_readReference (dd := d) (hd := by omega) (hW := hW1231) (ch := 0) (ln := ln) (e_ln := show G1227 9 = ln from ((hF1232.1 9 rfl).trans ((hF1171.1 9 rfl).trans (fx_9)))) (le := le) (e_le := show A1228 4 (ln).toNat = le from (congrFun ((hF1232.2 4 rfl).trans (((congrFun eA1222 4).trans (uA_ne (by decide))).trans ((hF1171.2 4 rfl).trans (hFx.2 4 rfl)))) _).trans (e_le)) (at0 := at2_1229) (e_at0 := show G1227 10 = at2_1229 from (e1233)) (fk := fk1) (e_fk := show G1227 16 = fk1 from ((hF1232.1 16 rfl).trans ((hF1171.1 16 rfl).trans (ex_fk1)))) (op0 := op1) (e_op0 := show G1227 15 = op1 from ((hF1232.1 15 rfl).trans ((hF1171.1 15 rfl).trans (ex_op1)))) (nd := nd2_1169) (e_nd := show G1227 31 = nd2_1169 from ((hF1232.1 31 rfl).trans (e1173))) (tk0 := tk2_1230) (e_tk0 := show G1227 11 = tk2_1230 from (e1234))  (h_ch := ⟨(by decide), (by decide)⟩)  (p_0 := by omega) (p_1 := by omega) (p_2 := by omega) (p_3 := by omega) (p_4 := by omega)) (fun o V' hq => ?_)
        obtain ⟨G1241, A1242, r1243, at2_1244, fk2_1245, op2_1246, nd2_1247, tk2_1248, rfl, rfl, hW1249, hF1250, hQ1251, b1252, e1253, e1254, e1255, e1256, e1257, p1258, p1259, p1260, p1261, p1262, p1263, q1264⟩ := hq
        have hF1265 := Fr_tr hF1239 hF1250 (Fr_sub (by decide)) (Fr_sub (by decide))
        have k1266 : A1242 18 (one).toNat = nd1 := (hQ1251 18 _ rfl (by omega)).trans (show A1228 18 (one).toNat = nd1 from (congrFun (hF1232.2 18 rfl) _).trans (q1225))
        have hP1267 := Pf_tr hP1240 hQ1251 (by omega)
        have bat2_1244 : (0 : Int) ≤ at2_1244 ∧ at2_1244 ≤ 3002 := e1253 ▸ hW1249.1 10
        have bfk2_1245 : (0 : Int) ≤ fk2_1245 ∧ fk2_1245 ≤ 6 := e1254 ▸ hW1249.1 16
        have bop2_1246 : (-2147483648 : Int) ≤ op2_1246 ∧ op2_1246 ≤ 2147483647 := e1255 ▸ hW1249.1 15
        have bnd2_1247 : (0 : Int) ≤ nd2_1247 ∧ nd2_1247 ≤ 6999 := e1256 ▸ hW1249.1 31
        have ztk2_1248 := tz_b tk2_1248
        have btk2_1248 : (0 : Int) ≤ tk2_1248 ∧ tk2_1248 ≤ 5 := e1257 ▸ hW1249.1 11
        refine .inr ⟨_, rfl, ?_⟩
        rcases q1264 with ⟨a1268, a1269, a1270, a1271, a1272, a1273⟩ | ⟨a1274, a1275, a1276⟩ | ⟨a1277, a1278, a1279⟩
        · have _q : True := trivial
          exfalso
          omega
        · have _q : True := trivial
          refine jr_st (pc' := 272) (i := 19) (m := 7000) (z := one) (y := r1243) rfl (by decide) rfl (by decide) (by omega) (by omega) rfl ?_
          have hW1281 : Wk G1241 (uA A1242 19 (one).toNat (r1243)) := Wk_a hW1249 (show (-2147483648 : Int) ≤ r1243 by omega) (show r1243 ≤ (2147483647 : Int) by omega)
          have hF1282 := Fr_a (z := r1243) (k := 19) (n := (one).toNat) hF1265 (by decide)
          obtain ⟨A1280, eA1280⟩ : ∃ q, q = uA A1242 19 (one).toNat (r1243) := ⟨_, rfl⟩
          rw [← eA1280]
          rw [← eA1280] at hW1281 hF1282
          have q1283 : A1280 19 (one).toNat = r1243 := by rw [eA1280]; exact uA_eq
          have hP1284 : Pf nd A A1280 := eA1280 ▸ Pf_a hP1267 (z := one) (by omega) (by omega)
          refine jx_ld (pc' := 273) (l' := L1178) (st' := [.ref 66]) rfl (jl_aloadn gL1178_0) ?_
          refine jx_vr (pc' := 276) (as := []) (st := []) rfl rfl rfl rfl ⟨rfl, rfl, Nat.le_of_ble_eq_true rfl⟩ rfl rfl (c_endLine (dd := d) (hd := by omega) (hW := hW1281)  (ln := ln) (e_ln := show G1241 9 = ln from ((hF1250.1 9 rfl).trans ((hF1232.1 9 rfl).trans ((hF1171.1 9 rfl).trans (fx_9))))) (li := li) (e_li := show G1241 3 = li from ((hF1250.1 3 rfl).trans ((hF1232.1 3 rfl).trans ((hF1171.1 3 rfl).trans ((hFx.1 3 rfl).trans (e_li)))))) (fk := fk2_1245) (e_fk := show G1241 16 = fk2_1245 from (e1254)) (tk0 := tk2_1248) (e_tk0 := show G1241 11 = tk2_1248 from (e1257))    (p_0 := by omega)) (fun o V' hq => ?_)
          obtain ⟨G1285, A1286, ln2_1287, fk2_1288, rfl, rfl, hW1289, hF1290, e1291, e1292, q1293⟩ := hq
          have hF1294 := Fr_tr hF1282 hF1290 (Fr_sub (by decide)) (Fr_sub (by decide))
          have hP1295 := Pf_f hP1284 hF1290 (by decide)
          have bln2_1287 : (0 : Int) ≤ ln2_1287 ∧ ln2_1287 ≤ 3000 := e1291 ▸ hW1289.1 9
          have bfk2_1288 : (0 : Int) ≤ fk2_1288 ∧ fk2_1288 ≤ 6 := e1292 ▸ hW1289.1 16
          refine .inl ⟨rfl, ?_⟩
          rcases q1293 with ⟨a1296, a1297, a1298, a1299, a1300⟩ | ⟨a1301, a1302⟩
          · have _q : True := trivial
            exfalso
            omega
          · have _q : True := trivial
            refine jx_ld (pc' := 277) (l' := L1178) (st' := [.int (i32 (one))]) rfl (jl_iloadn gL1178_1) ?_
            refine jx_rt (v := some (.int (i32 (one)))) rfl rfl rfl rfl rfl rfl ?_
            exact ⟨_, _, _, at2_1244, fk2_1288, nd2_1247, ln2_1287, rfl, rfl, hW1289, hF1294, hP1295, by omega, ((hF1290.1 10 rfl).trans (e1253)), (e1292), ((hF1290.1 31 rfl).trans (e1256)), (e1291), by omega, by omega, by omega, by omega, by omega, by first | exact Or.inl (⟨by omega, by omega, by omega⟩) | exact Or.inr ((⟨by omega, by omega, by omega, by omega, by omega⟩))⟩
        · have _q : True := trivial
          refine jr_st (pc' := 272) (i := 19) (m := 7000) (z := one) (y := r1243) rfl (by decide) rfl (by decide) (by omega) (by omega) rfl ?_
          have hW1304 : Wk G1241 (uA A1242 19 (one).toNat (r1243)) := Wk_a hW1249 (show (-2147483648 : Int) ≤ r1243 by omega) (show r1243 ≤ (2147483647 : Int) by omega)
          have hF1305 := Fr_a (z := r1243) (k := 19) (n := (one).toNat) hF1265 (by decide)
          obtain ⟨A1303, eA1303⟩ : ∃ q, q = uA A1242 19 (one).toNat (r1243) := ⟨_, rfl⟩
          rw [← eA1303]
          rw [← eA1303] at hW1304 hF1305
          have q1306 : A1303 19 (one).toNat = r1243 := by rw [eA1303]; exact uA_eq
          have hP1307 : Pf nd A A1303 := eA1303 ▸ Pf_a hP1267 (z := one) (by omega) (by omega)
          refine jx_ld (pc' := 273) (l' := L1178) (st' := [.ref 66]) rfl (jl_aloadn gL1178_0) ?_
          refine jx_vr (pc' := 276) (as := []) (st := []) rfl rfl rfl rfl ⟨rfl, rfl, Nat.le_of_ble_eq_true rfl⟩ rfl rfl (c_endLine (dd := d) (hd := by omega) (hW := hW1304)  (ln := ln) (e_ln := show G1241 9 = ln from ((hF1250.1 9 rfl).trans ((hF1232.1 9 rfl).trans ((hF1171.1 9 rfl).trans (fx_9))))) (li := li) (e_li := show G1241 3 = li from ((hF1250.1 3 rfl).trans ((hF1232.1 3 rfl).trans ((hF1171.1 3 rfl).trans ((hFx.1 3 rfl).trans (e_li)))))) (fk := fk2_1245) (e_fk := show G1241 16 = fk2_1245 from (e1254)) (tk0 := tk2_1248) (e_tk0 := show G1241 11 = tk2_1248 from (e1257))    (p_0 := by omega)) (fun o V' hq => ?_)
          obtain ⟨G1308, A1309, ln2_1310, fk2_1311, rfl, rfl, hW1312, hF1313, e1314, e1315, q1316⟩ := hq
          have hF1317 := Fr_tr hF1305 hF1313 (Fr_sub (by decide)) (Fr_sub (by decide))
          have hP1318 := Pf_f hP1307 hF1313 (by decide)
          have bln2_1310 : (0 : Int) ≤ ln2_1310 ∧ ln2_1310 ≤ 3000 := e1314 ▸ hW1312.1 9
          have bfk2_1311 : (0 : Int) ≤ fk2_1311 ∧ fk2_1311 ≤ 6 := e1315 ▸ hW1312.1 16
          refine .inl ⟨rfl, ?_⟩
          rcases q1316 with ⟨a1319, a1320, a1321, a1322, a1323⟩ | ⟨a1324, a1325⟩
          · have _q : True := trivial
            refine jx_ld (pc' := 277) (l' := L1178) (st' := [.int (i32 (one))]) rfl (jl_iloadn gL1178_1) ?_
            refine jx_rt (v := some (.int (i32 (one)))) rfl rfl rfl rfl rfl rfl ?_
            exact ⟨_, _, _, at2_1244, fk2_1311, nd2_1247, ln2_1310, rfl, rfl, hW1312, hF1317, hP1318, by omega, ((hF1313.1 10 rfl).trans (e1253)), (e1315), ((hF1313.1 31 rfl).trans (e1256)), (e1314), by omega, by omega, by omega, by omega, by omega, by first | exact Or.inl (⟨by omega, by omega, by omega⟩) | exact Or.inr ((⟨by omega, by omega, by omega, by omega, by omega⟩))⟩
          · have _q : True := trivial
            refine jx_ld (pc' := 277) (l' := L1178) (st' := [.int (i32 (one))]) rfl (jl_iloadn gL1178_1) ?_
            refine jx_rt (v := some (.int (i32 (one)))) rfl rfl rfl rfl rfl rfl ?_
            exact ⟨_, _, _, at2_1244, fk2_1311, nd2_1247, ln2_1310, rfl, rfl, hW1312, hF1317, hP1318, by omega, ((hF1313.1 10 rfl).trans (e1253)), (e1315), ((hF1313.1 31 rfl).trans (e1256)), (e1314), by omega, by omega, by omega, by omega, by omega, by first | exact Or.inl (⟨by omega, by omega, by omega⟩) | exact Or.inr ((⟨by omega, by omega, by omega, by omega, by omega⟩))⟩
    · have _q := h1166
      refine jx_ar (pc' := 229) (st' := [.int (i32 (3)), .ref 66]) rfl rfl rfl rfl ?_
      refine jx_go (tg := 233) rfl rfl ?_
      refine jx_ld (pc' := 235) (l' := L) (st' := [.int (i32 (s)), .int (i32 (3)), .ref 66]) rfl (jl_iload gL_4) ?_
      refine jx_ld (pc' := 237) (l' := L) (st' := [.int (i32 (ix)), .int (i32 (s)), .int (i32 (3)), .ref 66]) rfl (jl_iload gL_5) ?_
      refine jx_ar (pc' := 238) (st' := [.int (i32 (0)), .int (i32 (ix)), .int (i32 (s)), .int (i32 (3)), .ref 66]) rfl rfl rfl rfl ?_
      refine jx_ar (pc' := 239) (st' := [.int (i32 (0)), .int (i32 (0)), .int (i32 (ix)), .int (i32 (s)), .int (i32 (3)), .ref 66]) rfl rfl rfl rfl ?_
      refine jx_vr (pc' := 242) (as := [.int (i32 (3)), .int (i32 (s)), .int (i32 (ix)), .int (i32 (0)), .int (i32 (0))]) (st := []) rfl rfl rfl rfl ⟨rfl, rfl, Nat.le_of_ble_eq_true rfl⟩ rfl rfl (c_node (dd := d) (hd := by omega) (hW := hWx) (kind := 3) (a := s) (b := ix) (c := 0) (e := 0) (nd := nd1) (e_nd := show Gx 31 = nd1 from (ex_nd1))  (h_kind := ⟨(by decide), (by decide)⟩) (h_a := ⟨(Int.le_trans (by decide : (-2147483648 : Int) ≤ -2147483648) rx_s.1), (Int.le_trans rx_s.2 (by decide : (2147483647 : Int) ≤ 2147483647))⟩) (h_b := ⟨(Int.le_trans (by decide : (-2147483648 : Int) ≤ -2147483648) rx_ix.1), (Int.le_trans rx_ix.2 (by decide : (2147483647 : Int) ≤ 2147483647))⟩) (h_c := ⟨(by decide), (by decide)⟩) (h_e := ⟨(by decide), (by decide)⟩)  (p_0 := by omega) (p_1 := by omega)) (fun o V' hq => ?_)
      obtain ⟨G1326, A1327, nd2_1328, rfl, rfl, hW1329, hF1330, hQ1331, e1332, p1333, -⟩ := hq
      have hF1335 := Fr_tr hFx hF1330 (Fr_sub (by decide)) (Fr_sub (by decide))
      have hP1336 := Pf_tr hPx hQ1331 (by omega)
      have bnd2_1328 : (0 : Int) ≤ nd2_1328 ∧ nd2_1328 ≤ 6999 := e1332 ▸ hW1329.1 31
      refine .inr ⟨_, rfl, ?_⟩
      refine jx_ld (pc' := 244) (l' := jSto1 L 10 (.int (i32 (nd1)))) (st' := []) rfl rfl ?_
      obtain ⟨L1337, eL1337⟩ : ∃ q, q = jSto1 L 10 (.int (i32 (nd1))) := ⟨_, rfl⟩
      rw [← eL1337]
      have gL1337_0 : jGet L1337 0 = some (.ref 66) := eL1337 ▸ jg_ne (by decide) gL_0 rfl
      have gL1337_1 : jGet L1337 1 = some (.int (i32 (one))) := eL1337 ▸ jg_ne (by decide) gL_1 rfl
      have gL1337_4 : jGet L1337 4 = some (.int (i32 (s))) := eL1337 ▸ jg_ne (by decide) gL_4 rfl
      have gL1337_5 : jGet L1337 5 = some (.int (i32 (ix))) := eL1337 ▸ jg_ne (by decide) gL_5 rfl
      have gL1337_6 : jGet L1337 6 = some (.int (i32 (row))) := eL1337 ▸ jg_ne (by decide) gL_6 rfl
      have gL1337_7 : jGet L1337 7 = some (.int (i32 (ch))) := eL1337 ▸ jg_ne (by decide) gL_7 rfl
      have gL1337_10 : jGet L1337 10 = some (.int (i32 (nd1))) := eL1337 ▸ jg_eq
      refine jx_ld (pc' := 246) (l' := L1337) (st' := [.int (i32 (ch))]) rfl (jl_iload gL1337_7) ?_
      refine jx_if_eq (pc' := 249) (tg := 278) rfl rfl rfl (Int.le_trans (by decide : (-2147483648 : Int) ≤ -2147483648) rx_ch.1) (Int.le_trans rx_ch.2 (by decide : (2147483647 : Int) ≤ 2147483647)) (fun h1338 => ?_) (fun h1338 => ?_)
      · have _q := h1338
        refine jx_ld (pc' := 279) (l' := L1337) (st' := [.ref 66]) rfl (jl_aloadn gL1337_0) ?_
        refine jx_ld (pc' := 281) (l' := L1337) (st' := [.int (i32 (nd1)), .ref 66]) rfl (jl_iload gL1337_10) ?_
        refine jx_vr (pc' := 284) (as := [.int (i32 (nd1))]) (st := []) rfl rfl rfl rfl ⟨rfl, rfl, Nat.le_of_ble_eq_true rfl⟩ rfl rfl (c_readRest (dd := d) (k := 9) (hE := RE_all X 9) (hd := by omega) (hW := hW1329) (x := nd1) (ln := ln) (e_ln := show G1326 9 = ln from ((hF1330.1 9 rfl).trans (fx_9))) (le := le) (e_le := show A1327 4 (ln).toNat = le from (congrFun ((hF1330.2 4 rfl).trans (hFx.2 4 rfl)) _).trans (e_le)) (at0 := at1) (e_at0 := show G1326 10 = at1 from ((hF1330.1 10 rfl).trans (ex_at1))) (fk := fk1) (e_fk := show G1326 16 = fk1 from ((hF1330.1 16 rfl).trans (ex_fk1))) (op0 := op1) (e_op0 := show G1326 15 = op1 from ((hF1330.1 15 rfl).trans (ex_op1))) (nd := nd2_1328) (e_nd := show G1326 31 = nd2_1328 from (e1332)) (tk0 := tk1) (e_tk0 := show G1326 11 = tk1 from ((hF1330.1 11 rfl).trans (ex_tk1)))  (h_x := ⟨(Int.le_trans (by decide : (-2147483648 : Int) ≤ 0) b_nd1.1), (Int.le_trans b_nd1.2 (by decide : (6999 : Int) ≤ 2147483647))⟩)  (p_0 := by omega) (p_1 := by omega) (p_2 := by omega) (p_3 := by omega) (p_4 := by omega) (p_5 := by omega) (p_6 := by omega) (p_7 := by omega)) (fun o V' hq => ?_)
        obtain ⟨G1339, A1340, r1341, at2_1342, fk2_1343, op2_1344, nd2_1345, tk2_1346, rfl, rfl, hW1347, hF1348, hQ1349, b1350, e1351, e1352, e1353, e1354, e1355, p1356, p1357, p1358, p1359, p1360, p1361, q1362⟩ := hq
        have hF1363 := Fr_tr hF1335 hF1348 (Fr_sub (by decide)) (Fr_sub (by decide))
        have hP1364 := Pf_tr hP1336 hQ1349 (by omega)
        have bat2_1342 : (0 : Int) ≤ at2_1342 ∧ at2_1342 ≤ 3002 := e1351 ▸ hW1347.1 10
        have bfk2_1343 : (0 : Int) ≤ fk2_1343 ∧ fk2_1343 ≤ 6 := e1352 ▸ hW1347.1 16
        have bop2_1344 : (-2147483648 : Int) ≤ op2_1344 ∧ op2_1344 ≤ 2147483647 := e1353 ▸ hW1347.1 15
        have bnd2_1345 : (0 : Int) ≤ nd2_1345 ∧ nd2_1345 ≤ 6999 := e1354 ▸ hW1347.1 31
        have ztk2_1346 := tz_b tk2_1346
        have btk2_1346 : (0 : Int) ≤ tk2_1346 ∧ tk2_1346 ≤ 5 := e1355 ▸ hW1347.1 11
        refine .inr ⟨_, rfl, ?_⟩
        rcases q1362 with ⟨a1365, a1366, a1367, a1368, a1369, a1370⟩ | ⟨a1371, a1372, a1373⟩ | ⟨a1374, a1375, a1376⟩
        · have _q : True := trivial
          exfalso
          omega
        · have _q : True := trivial
          refine jx_ld (pc' := 285) (l' := jSto1 L1337 2 (.int (i32 (r1341)))) (st' := []) rfl rfl ?_
          obtain ⟨L1377, eL1377⟩ : ∃ q, q = jSto1 L1337 2 (.int (i32 (r1341))) := ⟨_, rfl⟩
          rw [← eL1377]
          have gL1377_0 : jGet L1377 0 = some (.ref 66) := eL1377 ▸ jg_ne (by decide) gL1337_0 rfl
          have gL1377_1 : jGet L1377 1 = some (.int (i32 (one))) := eL1377 ▸ jg_ne (by decide) gL1337_1 rfl
          have gL1377_4 : jGet L1377 4 = some (.int (i32 (s))) := eL1377 ▸ jg_ne (by decide) gL1337_4 rfl
          have gL1377_5 : jGet L1377 5 = some (.int (i32 (ix))) := eL1377 ▸ jg_ne (by decide) gL1337_5 rfl
          have gL1377_6 : jGet L1377 6 = some (.int (i32 (row))) := eL1377 ▸ jg_ne (by decide) gL1337_6 rfl
          have gL1377_7 : jGet L1377 7 = some (.int (i32 (ch))) := eL1377 ▸ jg_ne (by decide) gL1337_7 rfl
          have gL1377_10 : jGet L1377 10 = some (.int (i32 (nd1))) := eL1377 ▸ jg_ne (by decide) gL1337_10 rfl
          have gL1377_2 : jGet L1377 2 = some (.int (i32 (r1341))) := eL1377 ▸ jg_eq
          refine jx_go (tg := 293) rfl rfl ?_
          have z1378 := tz_f (tk2_1346)
          exact at_293 L1377 G1339 A1340 (one) (r1341) (at2_1342) (tk2_1346) (fk2_1343) (nd2_1345) (op2_1344) gL1377_0 gL1377_1 gL1377_2 hW1347 hF1363 hP1364 ((e1351)) ((e1355)) ((e1352)) ((e1354)) ((e1353)) (((hF1348.1 9 rfl).trans ((hF1330.1 9 rfl).trans (fx_9)))) (by omega) (by omega) (by omega) (by omega) (by omega) (by omega) (by omega) (by omega) (by omega)
        · have _q : True := trivial
          refine jx_ld (pc' := 285) (l' := jSto1 L1337 2 (.int (i32 (r1341)))) (st' := []) rfl rfl ?_
          obtain ⟨L1379, eL1379⟩ : ∃ q, q = jSto1 L1337 2 (.int (i32 (r1341))) := ⟨_, rfl⟩
          rw [← eL1379]
          have gL1379_0 : jGet L1379 0 = some (.ref 66) := eL1379 ▸ jg_ne (by decide) gL1337_0 rfl
          have gL1379_1 : jGet L1379 1 = some (.int (i32 (one))) := eL1379 ▸ jg_ne (by decide) gL1337_1 rfl
          have gL1379_4 : jGet L1379 4 = some (.int (i32 (s))) := eL1379 ▸ jg_ne (by decide) gL1337_4 rfl
          have gL1379_5 : jGet L1379 5 = some (.int (i32 (ix))) := eL1379 ▸ jg_ne (by decide) gL1337_5 rfl
          have gL1379_6 : jGet L1379 6 = some (.int (i32 (row))) := eL1379 ▸ jg_ne (by decide) gL1337_6 rfl
          have gL1379_7 : jGet L1379 7 = some (.int (i32 (ch))) := eL1379 ▸ jg_ne (by decide) gL1337_7 rfl
          have gL1379_10 : jGet L1379 10 = some (.int (i32 (nd1))) := eL1379 ▸ jg_ne (by decide) gL1337_10 rfl
          have gL1379_2 : jGet L1379 2 = some (.int (i32 (r1341))) := eL1379 ▸ jg_eq
          refine jx_go (tg := 293) rfl rfl ?_
          have z1380 := tz_f (tk2_1346)
          exact at_293 L1379 G1339 A1340 (one) (r1341) (at2_1342) (tk2_1346) (fk2_1343) (nd2_1345) (op2_1344) gL1379_0 gL1379_1 gL1379_2 hW1347 hF1363 hP1364 ((e1351)) ((e1355)) ((e1352)) ((e1354)) ((e1353)) (((hF1348.1 9 rfl).trans ((hF1330.1 9 rfl).trans (fx_9)))) (by omega) (by omega) (by omega) (by omega) (by omega) (by omega) (by omega) (by omega) (by omega)
      · have _q := h1338
        refine jx_ld (pc' := 250) (l' := L1337) (st' := [.ref 66]) rfl (jl_aloadn gL1337_0) ?_
        refine jr_get (pc' := 253) (i := 35) (v := .ref 85) rfl rfl (by decide) rfl rfl ?_
        refine jx_ld (pc' := 254) (l' := L1337) (st' := [.int (i32 (one)), .ref 85]) rfl (jl_iloadn gL1337_1) ?_
        refine jx_ld (pc' := 256) (l' := L1337) (st' := [.int (i32 (nd1)), .int (i32 (one)), .ref 85]) rfl (jl_iload gL1337_10) ?_
        refine jr_st (pc' := 257) (i := 18) (m := 7000) (z := one) (y := nd1) rfl (by decide) rfl (by decide) (by omega) (by omega) rfl ?_
        have hW1382 : Wk G1326 (uA A1327 18 (one).toNat (nd1)) := Wk_a hW1329 (show (-2147483648 : Int) ≤ nd1 by omega) (show nd1 ≤ (2147483647 : Int) by omega)
        have hF1383 := Fr_a (z := nd1) (k := 18) (n := (one).toNat) hF1335 (by decide)
        obtain ⟨A1381, eA1381⟩ : ∃ q, q = uA A1327 18 (one).toNat (nd1) := ⟨_, rfl⟩
        rw [← eA1381]
        rw [← eA1381] at hW1382 hF1383
        have q1384 : A1381 18 (one).toNat = nd1 := by rw [eA1381]; exact uA_eq
        have hP1385 : Pf nd A A1381 := eA1381 ▸ Pf_a hP1336 (z := one) (by omega) (by omega)
        refine jx_ld (pc' := 258) (l' := L1337) (st' := [.ref 66]) rfl (jl_aloadn gL1337_0) ?_
        refine jx_vr (pc' := 261) (as := []) (st := []) rfl rfl rfl rfl ⟨rfl, rfl, Nat.le_of_ble_eq_true rfl⟩ rfl rfl (c_next (dd := d) (hd := by omega) (hW := hW1382)  (ln := ln) (e_ln := show G1326 9 = ln from ((hF1330.1 9 rfl).trans (fx_9))) (le := le) (e_le := show A1381 4 (ln).toNat = le from (congrFun (((congrFun eA1381 4).trans (uA_ne (by decide))).trans ((hF1330.2 4 rfl).trans (hFx.2 4 rfl))) _).trans (e_le)) (at0 := at1) (e_at0 := show G1326 10 = at1 from ((hF1330.1 10 rfl).trans (ex_at1)))    (p_0 := by omega)) (fun o V' hq => ?_)
        obtain ⟨G1386, A1387, at2_1388, tk2_1389, rfl, rfl, hW1390, hF1391, e1392, e1393, p1394, p1395, p1396, -⟩ := hq
        have hF1398 := Fr_tr hF1383 hF1391 (Fr_sub (by decide)) (Fr_sub (by decide))
        have hP1399 := Pf_f hP1385 hF1391 (by decide)
        have bat2_1388 : (0 : Int) ≤ at2_1388 ∧ at2_1388 ≤ 3002 := e1392 ▸ hW1390.1 10
        have ztk2_1389 := tz_b tk2_1389
        have btk2_1389 : (0 : Int) ≤ tk2_1389 ∧ tk2_1389 ≤ 5 := e1393 ▸ hW1390.1 11
        refine .inl ⟨rfl, ?_⟩
        refine jx_ld (pc' := 262) (l' := L1337) (st' := [.ref 66]) rfl (jl_aloadn gL1337_0) ?_
        refine jr_get (pc' := 265) (i := 36) (v := .ref 86) rfl rfl (by decide) rfl rfl ?_
        refine jx_ld (pc' := 266) (l' := L1337) (st' := [.int (i32 (one)), .ref 86]) rfl (jl_iloadn gL1337_1) ?_
        refine jx_ld (pc' := 267) (l' := L1337) (st' := [.ref 66, .int (i32 (one)), .ref 86]) rfl (jl_aloadn gL1337_0) ?_
        refine jx_ar (pc' := 268) (st' := [.int (i32 (0)), .ref 66, .int (i32 (one)), .ref 86]) rfl rfl rfl rfl ?_
        refine jx_vr (pc' := 271) (as := [.int (i32 (0))]) (st := [.int (i32 (one)), .ref 86]) rfl rfl rfl rfl ⟨rfl, rfl, Nat.le_of_ble_eq_true rfl⟩ rfl rfl (c_readReference (dd := d) (hd := by omega) (hW := hW1390) (ch := 0) (ln := ln) (e_ln := show G1386 9 = ln from ((hF1391.1 9 rfl).trans ((hF1330.1 9 rfl).trans (fx_9)))) (le := le) (e_le := show A1387 4 (ln).toNat = le from (congrFun ((hF1391.2 4 rfl).trans (((congrFun eA1381 4).trans (uA_ne (by decide))).trans ((hF1330.2 4 rfl).trans (hFx.2 4 rfl)))) _).trans (e_le)) (at0 := at2_1388) (e_at0 := show G1386 10 = at2_1388 from (e1392)) (fk := fk1) (e_fk := show G1386 16 = fk1 from ((hF1391.1 16 rfl).trans ((hF1330.1 16 rfl).trans (ex_fk1)))) (op0 := op1) (e_op0 := show G1386 15 = op1 from ((hF1391.1 15 rfl).trans ((hF1330.1 15 rfl).trans (ex_op1)))) (nd := nd2_1328) (e_nd := show G1386 31 = nd2_1328 from ((hF1391.1 31 rfl).trans (e1332))) (tk0 := tk2_1389) (e_tk0 := show G1386 11 = tk2_1389 from (e1393))  (h_ch := ⟨(by decide), (by decide)⟩)  (p_0 := by omega) (p_1 := by omega) (p_2 := by omega) (p_3 := by omega) (p_4 := by omega)) (fun o V' hq => ?_)
        obtain ⟨G1400, A1401, r1402, at2_1403, fk2_1404, op2_1405, nd2_1406, tk2_1407, rfl, rfl, hW1408, hF1409, hQ1410, b1411, e1412, e1413, e1414, e1415, e1416, p1417, p1418, p1419, p1420, p1421, p1422, q1423⟩ := hq
        have hF1424 := Fr_tr hF1398 hF1409 (Fr_sub (by decide)) (Fr_sub (by decide))
        have k1425 : A1401 18 (one).toNat = nd1 := (hQ1410 18 _ rfl (by omega)).trans (show A1387 18 (one).toNat = nd1 from (congrFun (hF1391.2 18 rfl) _).trans (q1384))
        have hP1426 := Pf_tr hP1399 hQ1410 (by omega)
        have bat2_1403 : (0 : Int) ≤ at2_1403 ∧ at2_1403 ≤ 3002 := e1412 ▸ hW1408.1 10
        have bfk2_1404 : (0 : Int) ≤ fk2_1404 ∧ fk2_1404 ≤ 6 := e1413 ▸ hW1408.1 16
        have bop2_1405 : (-2147483648 : Int) ≤ op2_1405 ∧ op2_1405 ≤ 2147483647 := e1414 ▸ hW1408.1 15
        have bnd2_1406 : (0 : Int) ≤ nd2_1406 ∧ nd2_1406 ≤ 6999 := e1415 ▸ hW1408.1 31
        have ztk2_1407 := tz_b tk2_1407
        have btk2_1407 : (0 : Int) ≤ tk2_1407 ∧ tk2_1407 ≤ 5 := e1416 ▸ hW1408.1 11
        refine .inr ⟨_, rfl, ?_⟩
        rcases q1423 with ⟨a1427, a1428, a1429, a1430, a1431, a1432⟩ | ⟨a1433, a1434, a1435⟩ | ⟨a1436, a1437, a1438⟩
        · have _q : True := trivial
          exfalso
          omega
        · have _q : True := trivial
          refine jr_st (pc' := 272) (i := 19) (m := 7000) (z := one) (y := r1402) rfl (by decide) rfl (by decide) (by omega) (by omega) rfl ?_
          have hW1440 : Wk G1400 (uA A1401 19 (one).toNat (r1402)) := Wk_a hW1408 (show (-2147483648 : Int) ≤ r1402 by omega) (show r1402 ≤ (2147483647 : Int) by omega)
          have hF1441 := Fr_a (z := r1402) (k := 19) (n := (one).toNat) hF1424 (by decide)
          obtain ⟨A1439, eA1439⟩ : ∃ q, q = uA A1401 19 (one).toNat (r1402) := ⟨_, rfl⟩
          rw [← eA1439]
          rw [← eA1439] at hW1440 hF1441
          have q1442 : A1439 19 (one).toNat = r1402 := by rw [eA1439]; exact uA_eq
          have hP1443 : Pf nd A A1439 := eA1439 ▸ Pf_a hP1426 (z := one) (by omega) (by omega)
          refine jx_ld (pc' := 273) (l' := L1337) (st' := [.ref 66]) rfl (jl_aloadn gL1337_0) ?_
          refine jx_vr (pc' := 276) (as := []) (st := []) rfl rfl rfl rfl ⟨rfl, rfl, Nat.le_of_ble_eq_true rfl⟩ rfl rfl (c_endLine (dd := d) (hd := by omega) (hW := hW1440)  (ln := ln) (e_ln := show G1400 9 = ln from ((hF1409.1 9 rfl).trans ((hF1391.1 9 rfl).trans ((hF1330.1 9 rfl).trans (fx_9))))) (li := li) (e_li := show G1400 3 = li from ((hF1409.1 3 rfl).trans ((hF1391.1 3 rfl).trans ((hF1330.1 3 rfl).trans ((hFx.1 3 rfl).trans (e_li)))))) (fk := fk2_1404) (e_fk := show G1400 16 = fk2_1404 from (e1413)) (tk0 := tk2_1407) (e_tk0 := show G1400 11 = tk2_1407 from (e1416))    (p_0 := by omega)) (fun o V' hq => ?_)
          obtain ⟨G1444, A1445, ln2_1446, fk2_1447, rfl, rfl, hW1448, hF1449, e1450, e1451, q1452⟩ := hq
          have hF1453 := Fr_tr hF1441 hF1449 (Fr_sub (by decide)) (Fr_sub (by decide))
          have hP1454 := Pf_f hP1443 hF1449 (by decide)
          have bln2_1446 : (0 : Int) ≤ ln2_1446 ∧ ln2_1446 ≤ 3000 := e1450 ▸ hW1448.1 9
          have bfk2_1447 : (0 : Int) ≤ fk2_1447 ∧ fk2_1447 ≤ 6 := e1451 ▸ hW1448.1 16
          refine .inl ⟨rfl, ?_⟩
          rcases q1452 with ⟨a1455, a1456, a1457, a1458, a1459⟩ | ⟨a1460, a1461⟩
          · have _q : True := trivial
            exfalso
            omega
          · have _q : True := trivial
            refine jx_ld (pc' := 277) (l' := L1337) (st' := [.int (i32 (one))]) rfl (jl_iloadn gL1337_1) ?_
            refine jx_rt (v := some (.int (i32 (one)))) rfl rfl rfl rfl rfl rfl ?_
            exact ⟨_, _, _, at2_1403, fk2_1447, nd2_1406, ln2_1446, rfl, rfl, hW1448, hF1453, hP1454, by omega, ((hF1449.1 10 rfl).trans (e1412)), (e1451), ((hF1449.1 31 rfl).trans (e1415)), (e1450), by omega, by omega, by omega, by omega, by omega, by first | exact Or.inl (⟨by omega, by omega, by omega⟩) | exact Or.inr ((⟨by omega, by omega, by omega, by omega, by omega⟩))⟩
        · have _q : True := trivial
          refine jr_st (pc' := 272) (i := 19) (m := 7000) (z := one) (y := r1402) rfl (by decide) rfl (by decide) (by omega) (by omega) rfl ?_
          have hW1463 : Wk G1400 (uA A1401 19 (one).toNat (r1402)) := Wk_a hW1408 (show (-2147483648 : Int) ≤ r1402 by omega) (show r1402 ≤ (2147483647 : Int) by omega)
          have hF1464 := Fr_a (z := r1402) (k := 19) (n := (one).toNat) hF1424 (by decide)
          obtain ⟨A1462, eA1462⟩ : ∃ q, q = uA A1401 19 (one).toNat (r1402) := ⟨_, rfl⟩
          rw [← eA1462]
          rw [← eA1462] at hW1463 hF1464
          have q1465 : A1462 19 (one).toNat = r1402 := by rw [eA1462]; exact uA_eq
          have hP1466 : Pf nd A A1462 := eA1462 ▸ Pf_a hP1426 (z := one) (by omega) (by omega)
          refine jx_ld (pc' := 273) (l' := L1337) (st' := [.ref 66]) rfl (jl_aloadn gL1337_0) ?_
          refine jx_vr (pc' := 276) (as := []) (st := []) rfl rfl rfl rfl ⟨rfl, rfl, Nat.le_of_ble_eq_true rfl⟩ rfl rfl (c_endLine (dd := d) (hd := by omega) (hW := hW1463)  (ln := ln) (e_ln := show G1400 9 = ln from ((hF1409.1 9 rfl).trans ((hF1391.1 9 rfl).trans ((hF1330.1 9 rfl).trans (fx_9))))) (li := li) (e_li := show G1400 3 = li from ((hF1409.1 3 rfl).trans ((hF1391.1 3 rfl).trans ((hF1330.1 3 rfl).trans ((hFx.1 3 rfl).trans (e_li)))))) (fk := fk2_1404) (e_fk := show G1400 16 = fk2_1404 from (e1413)) (tk0 := tk2_1407) (e_tk0 := show G1400 11 = tk2_1407 from (e1416))    (p_0 := by omega)) (fun o V' hq => ?_)
          obtain ⟨G1467, A1468, ln2_1469, fk2_1470, rfl, rfl, hW1471, hF1472, e1473, e1474, q1475⟩ := hq
          have hF1476 := Fr_tr hF1464 hF1472 (Fr_sub (by decide)) (Fr_sub (by decide))
          have hP1477 := Pf_f hP1466 hF1472 (by decide)
          have bln2_1469 : (0 : Int) ≤ ln2_1469 ∧ ln2_1469 ≤ 3000 := e1473 ▸ hW1471.1 9
          have bfk2_1470 : (0 : Int) ≤ fk2_1470 ∧ fk2_1470 ≤ 6 := e1474 ▸ hW1471.1 16
          refine .inl ⟨rfl, ?_⟩
          rcases q1475 with ⟨a1478, a1479, a1480, a1481, a1482⟩ | ⟨a1483, a1484⟩
          · have _q : True := trivial
            refine jx_ld (pc' := 277) (l' := L1337) (st' := [.int (i32 (one))]) rfl (jl_iloadn gL1337_1) ?_
            refine jx_rt (v := some (.int (i32 (one)))) rfl rfl rfl rfl rfl rfl ?_
            exact ⟨_, _, _, at2_1403, fk2_1470, nd2_1406, ln2_1469, rfl, rfl, hW1471, hF1476, hP1477, by omega, ((hF1472.1 10 rfl).trans (e1412)), (e1474), ((hF1472.1 31 rfl).trans (e1415)), (e1473), by omega, by omega, by omega, by omega, by omega, by first | exact Or.inl (⟨by omega, by omega, by omega⟩) | exact Or.inr ((⟨by omega, by omega, by omega, by omega, by omega⟩))⟩
          · have _q : True := trivial
            refine jx_ld (pc' := 277) (l' := L1337) (st' := [.int (i32 (one))]) rfl (jl_iloadn gL1337_1) ?_
            refine jx_rt (v := some (.int (i32 (one)))) rfl rfl rfl rfl rfl rfl ?_
            exact ⟨_, _, _, at2_1403, fk2_1470, nd2_1406, ln2_1469, rfl, rfl, hW1471, hF1476, hP1477, by omega, ((hF1472.1 10 rfl).trans (e1412)), (e1474), ((hF1472.1 31 rfl).trans (e1415)), (e1473), by omega, by omega, by omega, by omega, by omega, by first | exact Or.inl (⟨by omega, by omega, by omega⟩) | exact Or.inr ((⟨by omega, by omega, by omega, by omega, by omega⟩))⟩
  have at_157 : ∀ (L : jL) (Gx : Nat → Int) (Ax : Nat → Nat → Int) (one pl s ix row ch kd at1 tk1 fk1 nd1 op1 : Int), jGet L 0 = some (.ref 66) → jGet L 1 = some (.int (i32 one)) → jGet L 3 = some (.int (i32 pl)) → jGet L 4 = some (.int (i32 s)) → jGet L 5 = some (.int (i32 ix)) → jGet L 6 = some (.int (i32 row)) → jGet L 7 = some (.int (i32 ch)) → jGet L 8 = some (.int (i32 kd)) → Wk Gx Ax → Fr [9, 10, 11, 12, 13, 14, 15, 16, 17, 18, 31] [15, 16, 17, 18, 19, 20, 21, 22, 24, 28] G A Gx Ax → Pf nd A Ax → Gx 10 = at1 → Gx 11 = tk1 → Gx 16 = fk1 → Gx 31 = nd1 → Gx 15 = op1 → Gx 9 = ln → ((-2147483648 : Int) ≤ one ∧ one ≤ 2147483647) → ((-2147483648 : Int) ≤ pl ∧ pl ≤ 2147483647) → ((-2147483648 : Int) ≤ s ∧ s ≤ 2147483647) → ((-2147483648 : Int) ≤ ix ∧ ix ≤ 2147483647) → ((-2147483648 : Int) ≤ row ∧ row ≤ 2147483647) → ((-2147483648 : Int) ≤ ch ∧ ch ≤ 2147483647) → ((-2147483648 : Int) ≤ kd ∧ kd ≤ 2147483647) → (at0 ≤ at1) → (at1 ≤ le) → (nd ≤ nd1) → (op1 = op0) → (nd ≤ one ∧ one ≤ 6998 ∧ one < nd1) → (fk1 = 0) → (nd1 - nd ≤ (2 * at1 - tz tk1) - (2 * at0 - tz tk0)) → (-3000 ≤ pl ∧ pl ≤ 3002) → (0 ≤ row ∧ row ≤ 1) → (0 ≤ ch ∧ ch ≤ 1) → (ch = 0 ∨ tz tk1 = 1) → wj X d jm303 (157, L, [], rV c0 c1 Gx Ax T) (fun o V' => ∃ (G' : Nat → Int) (A' : Nat → Nat → Int) (r : Int) (at2 : Int) (fk2 : Int) (nd2 : Int) (ln2 : Int), V' = rV c0 c1 G' A' T ∧ o = .inl (some (.int (i32 r))) ∧ Wk G' A' ∧ Fr [9, 10, 11, 12, 13, 14, 15, 16, 17, 18, 31] [15, 16, 17, 18, 19, 20, 21, 22, 24, 28] G A G' A' ∧ Pf nd A A' ∧ ((-2147483648 : Int) ≤ r ∧ r ≤ 2147483647) ∧ G' 10 = at2 ∧ G' 16 = fk2 ∧ G' 31 = nd2 ∧ G' 9 = ln2 ∧ (at0 ≤ at2) ∧ (at2 ≤ le) ∧ (nd ≤ nd2) ∧ (0 ≤ r) ∧ (r ≤ nd2) ∧ (((1 ≤ fk2) ∧ (ln2 = ln) ∧ (nd2 - nd ≤ 2 * at2 - 2 * at0 + 12)) ∨ ((fk2 = 0) ∧ (ln2 = ln + 1) ∧ (nd2 - nd ≤ 2 * at2 - (2 * at0 - tz tk0) + 0) ∧ (nd ≤ r) ∧ (r < nd2)))) := by
    intro L Gx Ax one pl s ix row ch kd at1 tk1 fk1 nd1 op1 gL_0 gL_1 gL_3 gL_4 gL_5 gL_6 gL_7 gL_8 hWx hFx hPx ex_at1 ex_tk1 ex_fk1 ex_nd1 ex_op1 fx_9 rx_one rx_pl rx_s rx_ix rx_row rx_ch rx_kd iv_0 iv_1 iv_2 iv_3 iv_4 iv_5 iv_6 iv_7 iv_8 iv_9 iv_10
    have b_at1 : (0 : Int) ≤ at1 ∧ at1 ≤ 3002 := ex_at1 ▸ hWx.1 10
    have z_tk1 := tz_f tk1
    have b_tk1 : (0 : Int) ≤ tk1 ∧ tk1 ≤ 5 := ex_tk1 ▸ hWx.1 11
    have b_fk1 : (0 : Int) ≤ fk1 ∧ fk1 ≤ 6 := ex_fk1 ▸ hWx.1 16
    have b_nd1 : (0 : Int) ≤ nd1 ∧ nd1 ≤ 6999 := ex_nd1 ▸ hWx.1 31
    have b_op1 : (-2147483648 : Int) ≤ op1 ∧ op1 ≤ 2147483647 := ex_op1 ▸ hWx.1 15
    refine jx_ld (pc' := 159) (l' := L) (st' := [.int (i32 (ch))]) rfl (jl_iload gL_7) ?_
    refine jx_if_eq (pc' := 162) (tg := 189) rfl rfl rfl (Int.le_trans (by decide : (-2147483648 : Int) ≤ -2147483648) rx_ch.1) (Int.le_trans rx_ch.2 (by decide : (2147483647 : Int) ≤ 2147483647)) (fun h1485 => ?_) (fun h1485 => ?_)
    · have _q := h1485
      refine jx_ld (pc' := 191) (l' := L) (st' := [.int (i32 (row))]) rfl (jl_iload gL_6) ?_
      refine jx_if_eq (pc' := 194) (tg := 202) rfl rfl rfl (Int.le_trans (by decide : (-2147483648 : Int) ≤ -2147483648) rx_row.1) (Int.le_trans rx_row.2 (by decide : (2147483647 : Int) ≤ 2147483647)) (fun h1486 => ?_) (fun h1486 => ?_)
      · have _q := h1486
        refine jx_ld (pc' := 204) (l' := L) (st' := [.int (i32 (kd))]) rfl (jl_iload gL_8) ?_
        refine jx_st (pc' := 207) (as := [.int (i32 (kd))]) (st := []) rfl rfl ⟨rfl, Nat.le_of_ble_eq_true rfl⟩ rfl rfl rfl (c_isValue (dd := d) (hd := by omega) (k := kd)   (h_k := ⟨(Int.le_trans (by decide : (-2147483648 : Int) ≤ -2147483648) rx_kd.1), (Int.le_trans rx_kd.2 (by decide : (2147483647 : Int) ≤ 2147483647))⟩)  ) (fun o V' hq => ?_)
        obtain ⟨r1487, rfl, rfl, b1488, q1489⟩ := hq
        refine .inr ⟨_, rfl, ?_⟩
        rcases q1489 with rfl | rfl
        · have _q : True := trivial
          refine jx_ld (pc' := 209) (l' := jSto1 L 9 (.int (i32 (1)))) (st' := []) rfl rfl ?_
          obtain ⟨L1490, eL1490⟩ : ∃ q, q = jSto1 L 9 (.int (i32 (1))) := ⟨_, rfl⟩
          rw [← eL1490]
          have gL1490_0 : jGet L1490 0 = some (.ref 66) := eL1490 ▸ jg_ne (by decide) gL_0 rfl
          have gL1490_1 : jGet L1490 1 = some (.int (i32 (one))) := eL1490 ▸ jg_ne (by decide) gL_1 rfl
          have gL1490_3 : jGet L1490 3 = some (.int (i32 (pl))) := eL1490 ▸ jg_ne (by decide) gL_3 rfl
          have gL1490_4 : jGet L1490 4 = some (.int (i32 (s))) := eL1490 ▸ jg_ne (by decide) gL_4 rfl
          have gL1490_5 : jGet L1490 5 = some (.int (i32 (ix))) := eL1490 ▸ jg_ne (by decide) gL_5 rfl
          have gL1490_6 : jGet L1490 6 = some (.int (i32 (row))) := eL1490 ▸ jg_ne (by decide) gL_6 rfl
          have gL1490_7 : jGet L1490 7 = some (.int (i32 (ch))) := eL1490 ▸ jg_ne (by decide) gL_7 rfl
          have gL1490_8 : jGet L1490 8 = some (.int (i32 (kd))) := eL1490 ▸ jg_ne (by decide) gL_8 rfl
          have gL1490_9 : jGet L1490 9 = some (.int (i32 (1))) := eL1490 ▸ jg_eq
          refine jx_ld (pc' := 211) (l' := L1490) (st' := [.int (i32 (1))]) rfl (jl_iload gL1490_9) ?_
          refine jx_if_ne (pc' := 214) (tg := 222) rfl rfl rfl (by decide) (by decide) (fun h1491 => ?_) (fun h1491 => ?_)
          · have _q := h1491
            have z1492 := tz_f (tk1)
            exact at_222 L1490 Gx Ax (one) (s) (ix) (row) (ch) (at1) (tk1) (fk1) (nd1) (op1) gL1490_0 gL1490_1 gL1490_4 gL1490_5 gL1490_6 gL1490_7 hWx hFx hPx ((ex_at1)) ((ex_tk1)) ((ex_fk1)) ((ex_nd1)) ((ex_op1)) ((fx_9)) (by omega) (by omega) (by omega) (by omega) (by omega) (by omega) (by omega) (by omega) (by omega) (by omega) (by omega) (by omega) (by omega) (by omega) (by omega)
          · have _q := h1491
            exact absurd h1491 (by omega)
        · have _q : True := trivial
          refine jx_ld (pc' := 209) (l' := jSto1 L 9 (.int (i32 (0)))) (st' := []) rfl rfl ?_
          obtain ⟨L1493, eL1493⟩ : ∃ q, q = jSto1 L 9 (.int (i32 (0))) := ⟨_, rfl⟩
          rw [← eL1493]
          have gL1493_0 : jGet L1493 0 = some (.ref 66) := eL1493 ▸ jg_ne (by decide) gL_0 rfl
          have gL1493_1 : jGet L1493 1 = some (.int (i32 (one))) := eL1493 ▸ jg_ne (by decide) gL_1 rfl
          have gL1493_3 : jGet L1493 3 = some (.int (i32 (pl))) := eL1493 ▸ jg_ne (by decide) gL_3 rfl
          have gL1493_4 : jGet L1493 4 = some (.int (i32 (s))) := eL1493 ▸ jg_ne (by decide) gL_4 rfl
          have gL1493_5 : jGet L1493 5 = some (.int (i32 (ix))) := eL1493 ▸ jg_ne (by decide) gL_5 rfl
          have gL1493_6 : jGet L1493 6 = some (.int (i32 (row))) := eL1493 ▸ jg_ne (by decide) gL_6 rfl
          have gL1493_7 : jGet L1493 7 = some (.int (i32 (ch))) := eL1493 ▸ jg_ne (by decide) gL_7 rfl
          have gL1493_8 : jGet L1493 8 = some (.int (i32 (kd))) := eL1493 ▸ jg_ne (by decide) gL_8 rfl
          have gL1493_9 : jGet L1493 9 = some (.int (i32 (0))) := eL1493 ▸ jg_eq
          refine jx_ld (pc' := 211) (l' := L1493) (st' := [.int (i32 (0))]) rfl (jl_iload gL1493_9) ?_
          refine jx_if_ne (pc' := 214) (tg := 222) rfl rfl rfl (by decide) (by decide) (fun h1494 => ?_) (fun h1494 => ?_)
          · have _q := h1494
            exact absurd h1494 (by omega)
          · have _q := h1494
            refine jx_ld (pc' := 215) (l' := L1493) (st' := [.ref 66]) rfl (jl_aloadn gL1493_0) ?_
            refine jx_ar (pc' := 216) (st' := [.int (i32 (4)), .ref 66]) rfl rfl rfl rfl ?_
            refine jx_ld (pc' := 217) (l' := L1493) (st' := [.int (i32 (pl)), .int (i32 (4)), .ref 66]) rfl (jl_iloadn gL1493_3) ?_
            refine jx_vr (pc' := 220) (as := [.int (i32 (4)), .int (i32 (pl))]) (st := []) rfl rfl rfl rfl ⟨rfl, rfl, Nat.le_of_ble_eq_true rfl⟩ rfl rfl (c_fail (dd := d) (hd := by omega) (hW := hWx) (kind := 4) (place := pl) (fk := fk1) (e_fk := show Gx 16 = fk1 from (ex_fk1))  (h_kind := ⟨(by decide), (by decide)⟩) (h_place := ⟨(Int.le_trans (by decide : (-2147483648 : Int) ≤ -2147483648) rx_pl.1), (Int.le_trans rx_pl.2 (by decide : (2147483647 : Int) ≤ 2147483647))⟩)  (p_0 := by omega) (p_1 := by omega)) (fun o V' hq => ?_)
            obtain ⟨G1495, A1496, fk2_1497, rfl, rfl, hW1498, hF1499, e1500, p1501, -⟩ := hq
            have hF1503 := Fr_tr hFx hF1499 (Fr_sub (by decide)) (Fr_sub (by decide))
            have hP1504 := Pf_f hPx hF1499 (by decide)
            have bfk2_1497 : (0 : Int) ≤ fk2_1497 ∧ fk2_1497 ≤ 6 := e1500 ▸ hW1498.1 16
            refine .inl ⟨rfl, ?_⟩
            refine jx_ar (pc' := 221) (st' := [.int (i32 (0))]) rfl rfl rfl rfl ?_
            refine jx_rt (v := some (.int (i32 (0)))) rfl rfl rfl rfl rfl rfl ?_
            exact ⟨_, _, _, at1, fk2_1497, nd1, ln, rfl, rfl, hW1498, hF1503, hP1504, by omega, ((hF1499.1 10 rfl).trans (ex_at1)), (e1500), ((hF1499.1 31 rfl).trans (ex_nd1)), ((hF1499.1 9 rfl).trans (fx_9)), by omega, by omega, by omega, by omega, by omega, by first | exact Or.inl (⟨by omega, by omega, by omega⟩) | exact Or.inr ((⟨by omega, by omega, by omega, by omega, by omega⟩))⟩
      · have _q := h1486
        refine jx_ld (pc' := 196) (l' := L) (st' := [.int (i32 (kd))]) rfl (jl_iload gL_8) ?_
        refine jx_st (pc' := 199) (as := [.int (i32 (kd))]) (st := []) rfl rfl ⟨rfl, Nat.le_of_ble_eq_true rfl⟩ rfl rfl rfl (c_isArray (dd := d) (hd := by omega) (k := kd)   (h_k := ⟨(Int.le_trans (by decide : (-2147483648 : Int) ≤ -2147483648) rx_kd.1), (Int.le_trans rx_kd.2 (by decide : (2147483647 : Int) ≤ 2147483647))⟩)  ) (fun o V' hq => ?_)
        obtain ⟨r1505, rfl, rfl, b1506, q1507⟩ := hq
        refine .inr ⟨_, rfl, ?_⟩
        rcases q1507 with rfl | rfl
        · have _q : True := trivial
          refine jx_go (tg := 207) rfl rfl ?_
          refine jx_ld (pc' := 209) (l' := jSto1 L 9 (.int (i32 (1)))) (st' := []) rfl rfl ?_
          obtain ⟨L1508, eL1508⟩ : ∃ q, q = jSto1 L 9 (.int (i32 (1))) := ⟨_, rfl⟩
          rw [← eL1508]
          have gL1508_0 : jGet L1508 0 = some (.ref 66) := eL1508 ▸ jg_ne (by decide) gL_0 rfl
          have gL1508_1 : jGet L1508 1 = some (.int (i32 (one))) := eL1508 ▸ jg_ne (by decide) gL_1 rfl
          have gL1508_3 : jGet L1508 3 = some (.int (i32 (pl))) := eL1508 ▸ jg_ne (by decide) gL_3 rfl
          have gL1508_4 : jGet L1508 4 = some (.int (i32 (s))) := eL1508 ▸ jg_ne (by decide) gL_4 rfl
          have gL1508_5 : jGet L1508 5 = some (.int (i32 (ix))) := eL1508 ▸ jg_ne (by decide) gL_5 rfl
          have gL1508_6 : jGet L1508 6 = some (.int (i32 (row))) := eL1508 ▸ jg_ne (by decide) gL_6 rfl
          have gL1508_7 : jGet L1508 7 = some (.int (i32 (ch))) := eL1508 ▸ jg_ne (by decide) gL_7 rfl
          have gL1508_8 : jGet L1508 8 = some (.int (i32 (kd))) := eL1508 ▸ jg_ne (by decide) gL_8 rfl
          have gL1508_9 : jGet L1508 9 = some (.int (i32 (1))) := eL1508 ▸ jg_eq
          refine jx_ld (pc' := 211) (l' := L1508) (st' := [.int (i32 (1))]) rfl (jl_iload gL1508_9) ?_
          refine jx_if_ne (pc' := 214) (tg := 222) rfl rfl rfl (by decide) (by decide) (fun h1509 => ?_) (fun h1509 => ?_)
          · have _q := h1509
            have z1510 := tz_f (tk1)
            exact at_222 L1508 Gx Ax (one) (s) (ix) (row) (ch) (at1) (tk1) (fk1) (nd1) (op1) gL1508_0 gL1508_1 gL1508_4 gL1508_5 gL1508_6 gL1508_7 hWx hFx hPx ((ex_at1)) ((ex_tk1)) ((ex_fk1)) ((ex_nd1)) ((ex_op1)) ((fx_9)) (by omega) (by omega) (by omega) (by omega) (by omega) (by omega) (by omega) (by omega) (by omega) (by omega) (by omega) (by omega) (by omega) (by omega) (by omega)
          · have _q := h1509
            exact absurd h1509 (by omega)
        · have _q : True := trivial
          refine jx_go (tg := 207) rfl rfl ?_
          refine jx_ld (pc' := 209) (l' := jSto1 L 9 (.int (i32 (0)))) (st' := []) rfl rfl ?_
          obtain ⟨L1511, eL1511⟩ : ∃ q, q = jSto1 L 9 (.int (i32 (0))) := ⟨_, rfl⟩
          rw [← eL1511]
          have gL1511_0 : jGet L1511 0 = some (.ref 66) := eL1511 ▸ jg_ne (by decide) gL_0 rfl
          have gL1511_1 : jGet L1511 1 = some (.int (i32 (one))) := eL1511 ▸ jg_ne (by decide) gL_1 rfl
          have gL1511_3 : jGet L1511 3 = some (.int (i32 (pl))) := eL1511 ▸ jg_ne (by decide) gL_3 rfl
          have gL1511_4 : jGet L1511 4 = some (.int (i32 (s))) := eL1511 ▸ jg_ne (by decide) gL_4 rfl
          have gL1511_5 : jGet L1511 5 = some (.int (i32 (ix))) := eL1511 ▸ jg_ne (by decide) gL_5 rfl
          have gL1511_6 : jGet L1511 6 = some (.int (i32 (row))) := eL1511 ▸ jg_ne (by decide) gL_6 rfl
          have gL1511_7 : jGet L1511 7 = some (.int (i32 (ch))) := eL1511 ▸ jg_ne (by decide) gL_7 rfl
          have gL1511_8 : jGet L1511 8 = some (.int (i32 (kd))) := eL1511 ▸ jg_ne (by decide) gL_8 rfl
          have gL1511_9 : jGet L1511 9 = some (.int (i32 (0))) := eL1511 ▸ jg_eq
          refine jx_ld (pc' := 211) (l' := L1511) (st' := [.int (i32 (0))]) rfl (jl_iload gL1511_9) ?_
          refine jx_if_ne (pc' := 214) (tg := 222) rfl rfl rfl (by decide) (by decide) (fun h1512 => ?_) (fun h1512 => ?_)
          · have _q := h1512
            exact absurd h1512 (by omega)
          · have _q := h1512
            refine jx_ld (pc' := 215) (l' := L1511) (st' := [.ref 66]) rfl (jl_aloadn gL1511_0) ?_
            refine jx_ar (pc' := 216) (st' := [.int (i32 (4)), .ref 66]) rfl rfl rfl rfl ?_
            refine jx_ld (pc' := 217) (l' := L1511) (st' := [.int (i32 (pl)), .int (i32 (4)), .ref 66]) rfl (jl_iloadn gL1511_3) ?_
            refine jx_vr (pc' := 220) (as := [.int (i32 (4)), .int (i32 (pl))]) (st := []) rfl rfl rfl rfl ⟨rfl, rfl, Nat.le_of_ble_eq_true rfl⟩ rfl rfl (c_fail (dd := d) (hd := by omega) (hW := hWx) (kind := 4) (place := pl) (fk := fk1) (e_fk := show Gx 16 = fk1 from (ex_fk1))  (h_kind := ⟨(by decide), (by decide)⟩) (h_place := ⟨(Int.le_trans (by decide : (-2147483648 : Int) ≤ -2147483648) rx_pl.1), (Int.le_trans rx_pl.2 (by decide : (2147483647 : Int) ≤ 2147483647))⟩)  (p_0 := by omega) (p_1 := by omega)) (fun o V' hq => ?_)
            obtain ⟨G1513, A1514, fk2_1515, rfl, rfl, hW1516, hF1517, e1518, p1519, -⟩ := hq
            have hF1521 := Fr_tr hFx hF1517 (Fr_sub (by decide)) (Fr_sub (by decide))
            have hP1522 := Pf_f hPx hF1517 (by decide)
            have bfk2_1515 : (0 : Int) ≤ fk2_1515 ∧ fk2_1515 ≤ 6 := e1518 ▸ hW1516.1 16
            refine .inl ⟨rfl, ?_⟩
            refine jx_ar (pc' := 221) (st' := [.int (i32 (0))]) rfl rfl rfl rfl ?_
            refine jx_rt (v := some (.int (i32 (0)))) rfl rfl rfl rfl rfl rfl ?_
            exact ⟨_, _, _, at1, fk2_1515, nd1, ln, rfl, rfl, hW1516, hF1521, hP1522, by omega, ((hF1517.1 10 rfl).trans (ex_at1)), (e1518), ((hF1517.1 31 rfl).trans (ex_nd1)), ((hF1517.1 9 rfl).trans (fx_9)), by omega, by omega, by omega, by omega, by omega, by first | exact Or.inl (⟨by omega, by omega, by omega⟩) | exact Or.inr ((⟨by omega, by omega, by omega, by omega, by omega⟩))⟩
    · have _q := h1485
      refine jx_ld (pc' := 164) (l' := L) (st' := [.int (i32 (row))]) rfl (jl_iload gL_6) ?_
      refine jx_if_eq (pc' := 167) (tg := 181) rfl rfl rfl (Int.le_trans (by decide : (-2147483648 : Int) ≤ -2147483648) rx_row.1) (Int.le_trans rx_row.2 (by decide : (2147483647 : Int) ≤ 2147483647)) (fun h1523 => ?_) (fun h1523 => ?_)
      · have _q := h1523
        refine jx_ld (pc' := 183) (l' := L) (st' := [.int (i32 (kd))]) rfl (jl_iload gL_8) ?_
        refine jx_st (pc' := 186) (as := [.int (i32 (kd))]) (st := []) rfl rfl ⟨rfl, Nat.le_of_ble_eq_true rfl⟩ rfl rfl rfl (c_isChannel (dd := d) (hd := by omega) (k := kd)   (h_k := ⟨(Int.le_trans (by decide : (-2147483648 : Int) ≤ -2147483648) rx_kd.1), (Int.le_trans rx_kd.2 (by decide : (2147483647 : Int) ≤ 2147483647))⟩)  ) (fun o V' hq => ?_)
        obtain ⟨r1524, rfl, rfl, b1525, q1526⟩ := hq
        refine .inr ⟨_, rfl, ?_⟩
        rcases q1526 with rfl | rfl
        · have _q : True := trivial
          refine jx_go (tg := 207) rfl rfl ?_
          refine jx_ld (pc' := 209) (l' := jSto1 L 9 (.int (i32 (1)))) (st' := []) rfl rfl ?_
          obtain ⟨L1527, eL1527⟩ : ∃ q, q = jSto1 L 9 (.int (i32 (1))) := ⟨_, rfl⟩
          rw [← eL1527]
          have gL1527_0 : jGet L1527 0 = some (.ref 66) := eL1527 ▸ jg_ne (by decide) gL_0 rfl
          have gL1527_1 : jGet L1527 1 = some (.int (i32 (one))) := eL1527 ▸ jg_ne (by decide) gL_1 rfl
          have gL1527_3 : jGet L1527 3 = some (.int (i32 (pl))) := eL1527 ▸ jg_ne (by decide) gL_3 rfl
          have gL1527_4 : jGet L1527 4 = some (.int (i32 (s))) := eL1527 ▸ jg_ne (by decide) gL_4 rfl
          have gL1527_5 : jGet L1527 5 = some (.int (i32 (ix))) := eL1527 ▸ jg_ne (by decide) gL_5 rfl
          have gL1527_6 : jGet L1527 6 = some (.int (i32 (row))) := eL1527 ▸ jg_ne (by decide) gL_6 rfl
          have gL1527_7 : jGet L1527 7 = some (.int (i32 (ch))) := eL1527 ▸ jg_ne (by decide) gL_7 rfl
          have gL1527_8 : jGet L1527 8 = some (.int (i32 (kd))) := eL1527 ▸ jg_ne (by decide) gL_8 rfl
          have gL1527_9 : jGet L1527 9 = some (.int (i32 (1))) := eL1527 ▸ jg_eq
          refine jx_ld (pc' := 211) (l' := L1527) (st' := [.int (i32 (1))]) rfl (jl_iload gL1527_9) ?_
          refine jx_if_ne (pc' := 214) (tg := 222) rfl rfl rfl (by decide) (by decide) (fun h1528 => ?_) (fun h1528 => ?_)
          · have _q := h1528
            have z1529 := tz_f (tk1)
            exact at_222 L1527 Gx Ax (one) (s) (ix) (row) (ch) (at1) (tk1) (fk1) (nd1) (op1) gL1527_0 gL1527_1 gL1527_4 gL1527_5 gL1527_6 gL1527_7 hWx hFx hPx ((ex_at1)) ((ex_tk1)) ((ex_fk1)) ((ex_nd1)) ((ex_op1)) ((fx_9)) (by omega) (by omega) (by omega) (by omega) (by omega) (by omega) (by omega) (by omega) (by omega) (by omega) (by omega) (by omega) (by omega) (by omega) (by omega)
          · have _q := h1528
            exact absurd h1528 (by omega)
        · have _q : True := trivial
          refine jx_go (tg := 207) rfl rfl ?_
          refine jx_ld (pc' := 209) (l' := jSto1 L 9 (.int (i32 (0)))) (st' := []) rfl rfl ?_
          obtain ⟨L1530, eL1530⟩ : ∃ q, q = jSto1 L 9 (.int (i32 (0))) := ⟨_, rfl⟩
          rw [← eL1530]
          have gL1530_0 : jGet L1530 0 = some (.ref 66) := eL1530 ▸ jg_ne (by decide) gL_0 rfl
          have gL1530_1 : jGet L1530 1 = some (.int (i32 (one))) := eL1530 ▸ jg_ne (by decide) gL_1 rfl
          have gL1530_3 : jGet L1530 3 = some (.int (i32 (pl))) := eL1530 ▸ jg_ne (by decide) gL_3 rfl
          have gL1530_4 : jGet L1530 4 = some (.int (i32 (s))) := eL1530 ▸ jg_ne (by decide) gL_4 rfl
          have gL1530_5 : jGet L1530 5 = some (.int (i32 (ix))) := eL1530 ▸ jg_ne (by decide) gL_5 rfl
          have gL1530_6 : jGet L1530 6 = some (.int (i32 (row))) := eL1530 ▸ jg_ne (by decide) gL_6 rfl
          have gL1530_7 : jGet L1530 7 = some (.int (i32 (ch))) := eL1530 ▸ jg_ne (by decide) gL_7 rfl
          have gL1530_8 : jGet L1530 8 = some (.int (i32 (kd))) := eL1530 ▸ jg_ne (by decide) gL_8 rfl
          have gL1530_9 : jGet L1530 9 = some (.int (i32 (0))) := eL1530 ▸ jg_eq
          refine jx_ld (pc' := 211) (l' := L1530) (st' := [.int (i32 (0))]) rfl (jl_iload gL1530_9) ?_
          refine jx_if_ne (pc' := 214) (tg := 222) rfl rfl rfl (by decide) (by decide) (fun h1531 => ?_) (fun h1531 => ?_)
          · have _q := h1531
            exact absurd h1531 (by omega)
          · have _q := h1531
            refine jx_ld (pc' := 215) (l' := L1530) (st' := [.ref 66]) rfl (jl_aloadn gL1530_0) ?_
            refine jx_ar (pc' := 216) (st' := [.int (i32 (4)), .ref 66]) rfl rfl rfl rfl ?_
            refine jx_ld (pc' := 217) (l' := L1530) (st' := [.int (i32 (pl)), .int (i32 (4)), .ref 66]) rfl (jl_iloadn gL1530_3) ?_
            refine jx_vr (pc' := 220) (as := [.int (i32 (4)), .int (i32 (pl))]) (st := []) rfl rfl rfl rfl ⟨rfl, rfl, Nat.le_of_ble_eq_true rfl⟩ rfl rfl (c_fail (dd := d) (hd := by omega) (hW := hWx) (kind := 4) (place := pl) (fk := fk1) (e_fk := show Gx 16 = fk1 from (ex_fk1))  (h_kind := ⟨(by decide), (by decide)⟩) (h_place := ⟨(Int.le_trans (by decide : (-2147483648 : Int) ≤ -2147483648) rx_pl.1), (Int.le_trans rx_pl.2 (by decide : (2147483647 : Int) ≤ 2147483647))⟩)  (p_0 := by omega) (p_1 := by omega)) (fun o V' hq => ?_)
            obtain ⟨G1532, A1533, fk2_1534, rfl, rfl, hW1535, hF1536, e1537, p1538, -⟩ := hq
            have hF1540 := Fr_tr hFx hF1536 (Fr_sub (by decide)) (Fr_sub (by decide))
            have hP1541 := Pf_f hPx hF1536 (by decide)
            have bfk2_1534 : (0 : Int) ≤ fk2_1534 ∧ fk2_1534 ≤ 6 := e1537 ▸ hW1535.1 16
            refine .inl ⟨rfl, ?_⟩
            refine jx_ar (pc' := 221) (st' := [.int (i32 (0))]) rfl rfl rfl rfl ?_
            refine jx_rt (v := some (.int (i32 (0)))) rfl rfl rfl rfl rfl rfl ?_
            exact ⟨_, _, _, at1, fk2_1534, nd1, ln, rfl, rfl, hW1535, hF1540, hP1541, by omega, ((hF1536.1 10 rfl).trans (ex_at1)), (e1537), ((hF1536.1 31 rfl).trans (ex_nd1)), ((hF1536.1 9 rfl).trans (fx_9)), by omega, by omega, by omega, by omega, by omega, by first | exact Or.inl (⟨by omega, by omega, by omega⟩) | exact Or.inr ((⟨by omega, by omega, by omega, by omega, by omega⟩))⟩
      · have _q := h1523
        refine jx_ld (pc' := 169) (l' := L) (st' := [.int (i32 (kd))]) rfl (jl_iload gL_8) ?_
        refine jx_ar (pc' := 170) (st' := [.int (i32 (4)), .int (i32 (kd))]) rfl rfl rfl rfl ?_
        refine jx_icmp_ne (pc' := 173) (tg := 177) rfl rfl rfl (Int.le_trans (by decide : (-2147483648 : Int) ≤ -2147483648) rx_kd.1) (Int.le_trans rx_kd.2 (by decide : (2147483647 : Int) ≤ 2147483647)) (by decide) (by decide) (fun h1542 => ?_) (fun h1542 => ?_)
        · have _q := h1542
          refine jx_ar (pc' := 178) (st' := [.int (i32 (0))]) rfl rfl rfl rfl ?_
          refine jx_go (tg := 207) rfl rfl ?_
          refine jx_ld (pc' := 209) (l' := jSto1 L 9 (.int (i32 (0)))) (st' := []) rfl rfl ?_
          obtain ⟨L1543, eL1543⟩ : ∃ q, q = jSto1 L 9 (.int (i32 (0))) := ⟨_, rfl⟩
          rw [← eL1543]
          have gL1543_0 : jGet L1543 0 = some (.ref 66) := eL1543 ▸ jg_ne (by decide) gL_0 rfl
          have gL1543_1 : jGet L1543 1 = some (.int (i32 (one))) := eL1543 ▸ jg_ne (by decide) gL_1 rfl
          have gL1543_3 : jGet L1543 3 = some (.int (i32 (pl))) := eL1543 ▸ jg_ne (by decide) gL_3 rfl
          have gL1543_4 : jGet L1543 4 = some (.int (i32 (s))) := eL1543 ▸ jg_ne (by decide) gL_4 rfl
          have gL1543_5 : jGet L1543 5 = some (.int (i32 (ix))) := eL1543 ▸ jg_ne (by decide) gL_5 rfl
          have gL1543_6 : jGet L1543 6 = some (.int (i32 (row))) := eL1543 ▸ jg_ne (by decide) gL_6 rfl
          have gL1543_7 : jGet L1543 7 = some (.int (i32 (ch))) := eL1543 ▸ jg_ne (by decide) gL_7 rfl
          have gL1543_8 : jGet L1543 8 = some (.int (i32 (kd))) := eL1543 ▸ jg_ne (by decide) gL_8 rfl
          have gL1543_9 : jGet L1543 9 = some (.int (i32 (0))) := eL1543 ▸ jg_eq
          refine jx_ld (pc' := 211) (l' := L1543) (st' := [.int (i32 (0))]) rfl (jl_iload gL1543_9) ?_
          refine jx_if_ne (pc' := 214) (tg := 222) rfl rfl rfl (by decide) (by decide) (fun h1544 => ?_) (fun h1544 => ?_)
          · have _q := h1544
            exact absurd h1544 (by omega)
          · have _q := h1544
            refine jx_ld (pc' := 215) (l' := L1543) (st' := [.ref 66]) rfl (jl_aloadn gL1543_0) ?_
            refine jx_ar (pc' := 216) (st' := [.int (i32 (4)), .ref 66]) rfl rfl rfl rfl ?_
            refine jx_ld (pc' := 217) (l' := L1543) (st' := [.int (i32 (pl)), .int (i32 (4)), .ref 66]) rfl (jl_iloadn gL1543_3) ?_
            refine jx_vr (pc' := 220) (as := [.int (i32 (4)), .int (i32 (pl))]) (st := []) rfl rfl rfl rfl ⟨rfl, rfl, Nat.le_of_ble_eq_true rfl⟩ rfl rfl (c_fail (dd := d) (hd := by omega) (hW := hWx) (kind := 4) (place := pl) (fk := fk1) (e_fk := show Gx 16 = fk1 from (ex_fk1))  (h_kind := ⟨(by decide), (by decide)⟩) (h_place := ⟨(Int.le_trans (by decide : (-2147483648 : Int) ≤ -2147483648) rx_pl.1), (Int.le_trans rx_pl.2 (by decide : (2147483647 : Int) ≤ 2147483647))⟩)  (p_0 := by omega) (p_1 := by omega)) (fun o V' hq => ?_)
            obtain ⟨G1545, A1546, fk2_1547, rfl, rfl, hW1548, hF1549, e1550, p1551, -⟩ := hq
            have hF1553 := Fr_tr hFx hF1549 (Fr_sub (by decide)) (Fr_sub (by decide))
            have hP1554 := Pf_f hPx hF1549 (by decide)
            have bfk2_1547 : (0 : Int) ≤ fk2_1547 ∧ fk2_1547 ≤ 6 := e1550 ▸ hW1548.1 16
            refine .inl ⟨rfl, ?_⟩
            refine jx_ar (pc' := 221) (st' := [.int (i32 (0))]) rfl rfl rfl rfl ?_
            refine jx_rt (v := some (.int (i32 (0)))) rfl rfl rfl rfl rfl rfl ?_
            exact ⟨_, _, _, at1, fk2_1547, nd1, ln, rfl, rfl, hW1548, hF1553, hP1554, by omega, ((hF1549.1 10 rfl).trans (ex_at1)), (e1550), ((hF1549.1 31 rfl).trans (ex_nd1)), ((hF1549.1 9 rfl).trans (fx_9)), by omega, by omega, by omega, by omega, by omega, by first | exact Or.inl (⟨by omega, by omega, by omega⟩) | exact Or.inr ((⟨by omega, by omega, by omega, by omega, by omega⟩))⟩
        · have _q := h1542
          refine jx_ar (pc' := 174) (st' := [.int (i32 (1))]) rfl rfl rfl rfl ?_
          refine jx_go (tg := 207) rfl rfl ?_
          refine jx_ld (pc' := 209) (l' := jSto1 L 9 (.int (i32 (1)))) (st' := []) rfl rfl ?_
          obtain ⟨L1555, eL1555⟩ : ∃ q, q = jSto1 L 9 (.int (i32 (1))) := ⟨_, rfl⟩
          rw [← eL1555]
          have gL1555_0 : jGet L1555 0 = some (.ref 66) := eL1555 ▸ jg_ne (by decide) gL_0 rfl
          have gL1555_1 : jGet L1555 1 = some (.int (i32 (one))) := eL1555 ▸ jg_ne (by decide) gL_1 rfl
          have gL1555_3 : jGet L1555 3 = some (.int (i32 (pl))) := eL1555 ▸ jg_ne (by decide) gL_3 rfl
          have gL1555_4 : jGet L1555 4 = some (.int (i32 (s))) := eL1555 ▸ jg_ne (by decide) gL_4 rfl
          have gL1555_5 : jGet L1555 5 = some (.int (i32 (ix))) := eL1555 ▸ jg_ne (by decide) gL_5 rfl
          have gL1555_6 : jGet L1555 6 = some (.int (i32 (row))) := eL1555 ▸ jg_ne (by decide) gL_6 rfl
          have gL1555_7 : jGet L1555 7 = some (.int (i32 (ch))) := eL1555 ▸ jg_ne (by decide) gL_7 rfl
          have gL1555_8 : jGet L1555 8 = some (.int (i32 (kd))) := eL1555 ▸ jg_ne (by decide) gL_8 rfl
          have gL1555_9 : jGet L1555 9 = some (.int (i32 (1))) := eL1555 ▸ jg_eq
          refine jx_ld (pc' := 211) (l' := L1555) (st' := [.int (i32 (1))]) rfl (jl_iload gL1555_9) ?_
          refine jx_if_ne (pc' := 214) (tg := 222) rfl rfl rfl (by decide) (by decide) (fun h1556 => ?_) (fun h1556 => ?_)
          · have _q := h1556
            have z1557 := tz_f (tk1)
            exact at_222 L1555 Gx Ax (one) (s) (ix) (row) (ch) (at1) (tk1) (fk1) (nd1) (op1) gL1555_0 gL1555_1 gL1555_4 gL1555_5 gL1555_6 gL1555_7 hWx hFx hPx ((ex_at1)) ((ex_tk1)) ((ex_fk1)) ((ex_nd1)) ((ex_op1)) ((fx_9)) (by omega) (by omega) (by omega) (by omega) (by omega) (by omega) (by omega) (by omega) (by omega) (by omega) (by omega) (by omega) (by omega) (by omega) (by omega)
          · have _q := h1556
            exact absurd h1556 (by omega)
  have at_108 : ∀ (L : jL) (Gx : Nat → Int) (Ax : Nat → Nat → Int) (one pl s ix row at1 tk1 fk1 nd1 op1 : Int), jGet L 0 = some (.ref 66) → jGet L 1 = some (.int (i32 one)) → jGet L 3 = some (.int (i32 pl)) → jGet L 4 = some (.int (i32 s)) → jGet L 5 = some (.int (i32 ix)) → jGet L 6 = some (.int (i32 row)) → Wk Gx Ax → Fr [9, 10, 11, 12, 13, 14, 15, 16, 17, 18, 31] [15, 16, 17, 18, 19, 20, 21, 22, 24, 28] G A Gx Ax → Pf nd A Ax → Gx 10 = at1 → Gx 11 = tk1 → Gx 16 = fk1 → Gx 31 = nd1 → Gx 15 = op1 → Gx 9 = ln → ((-2147483648 : Int) ≤ one ∧ one ≤ 2147483647) → ((-2147483648 : Int) ≤ pl ∧ pl ≤ 2147483647) → ((-2147483648 : Int) ≤ s ∧ s ≤ 2147483647) → ((-2147483648 : Int) ≤ ix ∧ ix ≤ 2147483647) → ((-2147483648 : Int) ≤ row ∧ row ≤ 2147483647) → (at0 ≤ at1) → (at1 ≤ le) → (nd ≤ nd1) → (op1 = op0) → (nd ≤ one ∧ one ≤ 6998 ∧ one < nd1) → (fk1 = 0) → (nd1 - nd ≤ (2 * at1 - tz tk1) - (2 * at0 - tz tk0)) → (0 ≤ s ∧ s ≤ 201) → (-3000 ≤ pl ∧ pl ≤ 3002) → (0 ≤ row ∧ row ≤ 1) → wj X d jm303 (108, L, [], rV c0 c1 Gx Ax T) (fun o V' => ∃ (G' : Nat → Int) (A' : Nat → Nat → Int) (r : Int) (at2 : Int) (fk2 : Int) (nd2 : Int) (ln2 : Int), V' = rV c0 c1 G' A' T ∧ o = .inl (some (.int (i32 r))) ∧ Wk G' A' ∧ Fr [9, 10, 11, 12, 13, 14, 15, 16, 17, 18, 31] [15, 16, 17, 18, 19, 20, 21, 22, 24, 28] G A G' A' ∧ Pf nd A A' ∧ ((-2147483648 : Int) ≤ r ∧ r ≤ 2147483647) ∧ G' 10 = at2 ∧ G' 16 = fk2 ∧ G' 31 = nd2 ∧ G' 9 = ln2 ∧ (at0 ≤ at2) ∧ (at2 ≤ le) ∧ (nd ≤ nd2) ∧ (0 ≤ r) ∧ (r ≤ nd2) ∧ (((1 ≤ fk2) ∧ (ln2 = ln) ∧ (nd2 - nd ≤ 2 * at2 - 2 * at0 + 12)) ∨ ((fk2 = 0) ∧ (ln2 = ln + 1) ∧ (nd2 - nd ≤ 2 * at2 - (2 * at0 - tz tk0) + 0) ∧ (nd ≤ r) ∧ (r < nd2)))) := by
    intro L Gx Ax one pl s ix row at1 tk1 fk1 nd1 op1 gL_0 gL_1 gL_3 gL_4 gL_5 gL_6 hWx hFx hPx ex_at1 ex_tk1 ex_fk1 ex_nd1 ex_op1 fx_9 rx_one rx_pl rx_s rx_ix rx_row iv_0 iv_1 iv_2 iv_3 iv_4 iv_5 iv_6 iv_7 iv_8 iv_9
    have b_at1 : (0 : Int) ≤ at1 ∧ at1 ≤ 3002 := ex_at1 ▸ hWx.1 10
    have z_tk1 := tz_f tk1
    have b_tk1 : (0 : Int) ≤ tk1 ∧ tk1 ≤ 5 := ex_tk1 ▸ hWx.1 11
    have b_fk1 : (0 : Int) ≤ fk1 ∧ fk1 ≤ 6 := ex_fk1 ▸ hWx.1 16
    have b_nd1 : (0 : Int) ≤ nd1 ∧ nd1 ≤ 6999 := ex_nd1 ▸ hWx.1 31
    have b_op1 : (-2147483648 : Int) ≤ op1 ∧ op1 ≤ 2147483647 := ex_op1 ▸ hWx.1 15
    refine jx_ld (pc' := 109) (l' := L) (st' := [.ref 66]) rfl (jl_aloadn gL_0) ?_
    refine jx_ar (pc' := 111) (st' := [.int (i32 (63)), .ref 66]) rfl rfl rfl rfl ?_
    have b1558 : (-2147483648 : Int) ≤ Gx 13 ∧ Gx 13 ≤ 2147483647 := hWx.1 13
    refine jx_vr (pc' := 114) (as := [.int (i32 (63))]) (st := []) rfl rfl rfl rfl ⟨rfl, rfl, Nat.le_of_ble_eq_true rfl⟩ rfl rfl (c_is (dd := d) (hd := by omega) (hW := hWx) (k := 63) (tk := tk1) (e_tk := show Gx 11 = tk1 from (ex_tk1)) (tn := Gx 13) (e_tn := show Gx 13 = Gx 13 from rfl)  (h_k := ⟨(by decide), (by decide)⟩)  ) (fun o V' hq => ?_)
    obtain ⟨r1559, rfl, rfl, b1560, q1561⟩ := hq
    refine .inr ⟨_, rfl, ?_⟩
    rcases q1561 with ⟨rfl, a1562, a1563, a1564⟩ | rfl
    · have _q : True := trivial
      refine jx_ld (pc' := 116) (l' := jSto1 L 7 (.int (i32 (1)))) (st' := []) rfl rfl ?_
      obtain ⟨L1565, eL1565⟩ : ∃ q, q = jSto1 L 7 (.int (i32 (1))) := ⟨_, rfl⟩
      rw [← eL1565]
      have gL1565_0 : jGet L1565 0 = some (.ref 66) := eL1565 ▸ jg_ne (by decide) gL_0 rfl
      have gL1565_1 : jGet L1565 1 = some (.int (i32 (one))) := eL1565 ▸ jg_ne (by decide) gL_1 rfl
      have gL1565_3 : jGet L1565 3 = some (.int (i32 (pl))) := eL1565 ▸ jg_ne (by decide) gL_3 rfl
      have gL1565_4 : jGet L1565 4 = some (.int (i32 (s))) := eL1565 ▸ jg_ne (by decide) gL_4 rfl
      have gL1565_5 : jGet L1565 5 = some (.int (i32 (ix))) := eL1565 ▸ jg_ne (by decide) gL_5 rfl
      have gL1565_6 : jGet L1565 6 = some (.int (i32 (row))) := eL1565 ▸ jg_ne (by decide) gL_6 rfl
      have gL1565_7 : jGet L1565 7 = some (.int (i32 (1))) := eL1565 ▸ jg_eq
      refine jx_ld (pc' := 117) (l' := L1565) (st' := [.ref 66]) rfl (jl_aloadn gL1565_0) ?_
      refine jr_get (pc' := 120) (i := 21) (v := .ref 74) rfl rfl (by decide) rfl rfl ?_
      refine jx_ld (pc' := 122) (l' := L1565) (st' := [.int (i32 (s)), .ref 74]) rfl (jl_iload gL1565_4) ?_
      have b1566 : (0 : Int) ≤ A 7 (s).toNat ∧ A 7 (s).toNat ≤ 14 := hW.2 7 _
      refine jr_ldv (pc' := 123) (i := 7) (m := 260) (z := s) (y := A 7 (s).toNat) rfl (by decide) rfl (by decide) (by omega) (by omega) rfl (show Ax 7 (s).toNat = A 7 (s).toNat from (congrFun (hFx.2 7 rfl) _)) ?_
      refine jx_ld (pc' := 125) (l' := jSto1 L1565 8 (.int (i32 (A 7 (s).toNat)))) (st' := []) rfl rfl ?_
      obtain ⟨L1567, eL1567⟩ : ∃ q, q = jSto1 L1565 8 (.int (i32 (A 7 (s).toNat))) := ⟨_, rfl⟩
      rw [← eL1567]
      have gL1567_0 : jGet L1567 0 = some (.ref 66) := eL1567 ▸ jg_ne (by decide) gL1565_0 rfl
      have gL1567_1 : jGet L1567 1 = some (.int (i32 (one))) := eL1567 ▸ jg_ne (by decide) gL1565_1 rfl
      have gL1567_3 : jGet L1567 3 = some (.int (i32 (pl))) := eL1567 ▸ jg_ne (by decide) gL1565_3 rfl
      have gL1567_4 : jGet L1567 4 = some (.int (i32 (s))) := eL1567 ▸ jg_ne (by decide) gL1565_4 rfl
      have gL1567_5 : jGet L1567 5 = some (.int (i32 (ix))) := eL1567 ▸ jg_ne (by decide) gL1565_5 rfl
      have gL1567_6 : jGet L1567 6 = some (.int (i32 (row))) := eL1567 ▸ jg_ne (by decide) gL1565_6 rfl
      have gL1567_7 : jGet L1567 7 = some (.int (i32 (1))) := eL1567 ▸ jg_ne (by decide) gL1565_7 rfl
      have gL1567_8 : jGet L1567 8 = some (.int (i32 (A 7 (s).toNat))) := eL1567 ▸ jg_eq
      refine jx_ld (pc' := 127) (l' := L1567) (st' := [.int (i32 (1))]) rfl (jl_iload gL1567_7) ?_
      refine jx_if_ne (pc' := 130) (tg := 157) rfl rfl rfl (by decide) (by decide) (fun h1568 => ?_) (fun h1568 => ?_)
      · have _q := h1568
        have z1569 := tz_f (tk1)
        exact at_157 L1567 Gx Ax (one) (pl) (s) (ix) (row) (1) (A 7 (s).toNat) (at1) (tk1) (fk1) (nd1) (op1) gL1567_0 gL1567_1 gL1567_3 gL1567_4 gL1567_5 gL1567_6 gL1567_7 gL1567_8 hWx hFx hPx ((ex_at1)) ((ex_tk1)) ((ex_fk1)) ((ex_nd1)) ((ex_op1)) ((fx_9)) (by omega) (by omega) (by omega) (by omega) (by omega) (by omega) (by omega) (by omega) (by omega) (by omega) (by omega) (by omega) (by omega) (by omega) (by omega) (by omega) (by omega) (by omega)
      · have _q := h1568
        exact absurd h1568 (by omega)
    · have _q : True := trivial
      refine jx_ld (pc' := 116) (l' := jSto1 L 7 (.int (i32 (0)))) (st' := []) rfl rfl ?_
      obtain ⟨L1570, eL1570⟩ : ∃ q, q = jSto1 L 7 (.int (i32 (0))) := ⟨_, rfl⟩
      rw [← eL1570]
      have gL1570_0 : jGet L1570 0 = some (.ref 66) := eL1570 ▸ jg_ne (by decide) gL_0 rfl
      have gL1570_1 : jGet L1570 1 = some (.int (i32 (one))) := eL1570 ▸ jg_ne (by decide) gL_1 rfl
      have gL1570_3 : jGet L1570 3 = some (.int (i32 (pl))) := eL1570 ▸ jg_ne (by decide) gL_3 rfl
      have gL1570_4 : jGet L1570 4 = some (.int (i32 (s))) := eL1570 ▸ jg_ne (by decide) gL_4 rfl
      have gL1570_5 : jGet L1570 5 = some (.int (i32 (ix))) := eL1570 ▸ jg_ne (by decide) gL_5 rfl
      have gL1570_6 : jGet L1570 6 = some (.int (i32 (row))) := eL1570 ▸ jg_ne (by decide) gL_6 rfl
      have gL1570_7 : jGet L1570 7 = some (.int (i32 (0))) := eL1570 ▸ jg_eq
      refine jx_ld (pc' := 117) (l' := L1570) (st' := [.ref 66]) rfl (jl_aloadn gL1570_0) ?_
      refine jr_get (pc' := 120) (i := 21) (v := .ref 74) rfl rfl (by decide) rfl rfl ?_
      refine jx_ld (pc' := 122) (l' := L1570) (st' := [.int (i32 (s)), .ref 74]) rfl (jl_iload gL1570_4) ?_
      have b1571 : (0 : Int) ≤ A 7 (s).toNat ∧ A 7 (s).toNat ≤ 14 := hW.2 7 _
      refine jr_ldv (pc' := 123) (i := 7) (m := 260) (z := s) (y := A 7 (s).toNat) rfl (by decide) rfl (by decide) (by omega) (by omega) rfl (show Ax 7 (s).toNat = A 7 (s).toNat from (congrFun (hFx.2 7 rfl) _)) ?_
      refine jx_ld (pc' := 125) (l' := jSto1 L1570 8 (.int (i32 (A 7 (s).toNat)))) (st' := []) rfl rfl ?_
      obtain ⟨L1572, eL1572⟩ : ∃ q, q = jSto1 L1570 8 (.int (i32 (A 7 (s).toNat))) := ⟨_, rfl⟩
      rw [← eL1572]
      have gL1572_0 : jGet L1572 0 = some (.ref 66) := eL1572 ▸ jg_ne (by decide) gL1570_0 rfl
      have gL1572_1 : jGet L1572 1 = some (.int (i32 (one))) := eL1572 ▸ jg_ne (by decide) gL1570_1 rfl
      have gL1572_3 : jGet L1572 3 = some (.int (i32 (pl))) := eL1572 ▸ jg_ne (by decide) gL1570_3 rfl
      have gL1572_4 : jGet L1572 4 = some (.int (i32 (s))) := eL1572 ▸ jg_ne (by decide) gL1570_4 rfl
      have gL1572_5 : jGet L1572 5 = some (.int (i32 (ix))) := eL1572 ▸ jg_ne (by decide) gL1570_5 rfl
      have gL1572_6 : jGet L1572 6 = some (.int (i32 (row))) := eL1572 ▸ jg_ne (by decide) gL1570_6 rfl
      have gL1572_7 : jGet L1572 7 = some (.int (i32 (0))) := eL1572 ▸ jg_ne (by decide) gL1570_7 rfl
      have gL1572_8 : jGet L1572 8 = some (.int (i32 (A 7 (s).toNat))) := eL1572 ▸ jg_eq
      refine jx_ld (pc' := 127) (l' := L1572) (st' := [.int (i32 (0))]) rfl (jl_iload gL1572_7) ?_
      refine jx_if_ne (pc' := 130) (tg := 157) rfl rfl rfl (by decide) (by decide) (fun h1573 => ?_) (fun h1573 => ?_)
      · have _q := h1573
        exact absurd h1573 (by omega)
      · have _q := h1573
        refine jx_ld (pc' := 131) (l' := L1572) (st' := [.ref 66]) rfl (jl_aloadn gL1572_0) ?_
        refine jx_ar (pc' := 133) (st' := [.int (i32 (38)), .ref 66]) rfl rfl rfl rfl ?_
        refine jx_vr (pc' := 136) (as := [.int (i32 (38))]) (st := []) rfl rfl rfl rfl ⟨rfl, rfl, Nat.le_of_ble_eq_true rfl⟩ rfl rfl (c_is (dd := d) (hd := by omega) (hW := hWx) (k := 38) (tk := tk1) (e_tk := show Gx 11 = tk1 from (ex_tk1)) (tn := Gx 13) (e_tn := show Gx 13 = Gx 13 from rfl)  (h_k := ⟨(by decide), (by decide)⟩)  ) (fun o V' hq => ?_)
        obtain ⟨r1574, rfl, rfl, b1575, q1576⟩ := hq
        refine .inr ⟨_, rfl, ?_⟩
        rcases q1576 with ⟨rfl, a1577, a1578, a1579⟩ | rfl
        · have _q : True := trivial
          refine jx_if_ne (pc' := 139) (tg := 157) rfl rfl rfl (by decide) (by decide) (fun h1580 => ?_) (fun h1580 => ?_)
          · have _q := h1580
            have z1581 := tz_f (tk1)
            exact at_157 L1572 Gx Ax (one) (pl) (s) (ix) (row) (0) (A 7 (s).toNat) (at1) (tk1) (fk1) (nd1) (op1) gL1572_0 gL1572_1 gL1572_3 gL1572_4 gL1572_5 gL1572_6 gL1572_7 gL1572_8 hWx hFx hPx ((ex_at1)) ((ex_tk1)) ((ex_fk1)) ((ex_nd1)) ((ex_op1)) ((fx_9)) (by omega) (by omega) (by omega) (by omega) (by omega) (by omega) (by omega) (by omega) (by omega) (by omega) (by omega) (by omega) (by omega) (by omega) (by omega) (by omega) (by omega) (by omega)
          · have _q := h1580
            exact absurd h1580 (by omega)
        · have _q : True := trivial
          refine jx_if_ne (pc' := 139) (tg := 157) rfl rfl rfl (by decide) (by decide) (fun h1582 => ?_) (fun h1582 => ?_)
          · have _q := h1582
            exact absurd h1582 (by omega)
          · have _q := h1582
            refine jx_ld (pc' := 140) (l' := L1572) (st' := [.ref 66]) rfl (jl_aloadn gL1572_0) ?_
            refine jx_vr (pc' := 143) (as := []) (st := []) rfl rfl rfl rfl ⟨rfl, rfl, Nat.le_of_ble_eq_true rfl⟩ rfl rfl (c_operationAt (dd := d) (hd := by omega) (hW := hWx)  (tk := tk1) (e_tk := show Gx 11 = tk1 from (ex_tk1)) (tn := Gx 13) (e_tn := show Gx 13 = Gx 13 from rfl)    ) (fun o V' hq => ?_)
            obtain ⟨r1583, rfl, rfl, b1584, q1585⟩ := hq
            refine .inr ⟨_, rfl, ?_⟩
            rcases q1585 with rfl | a1586
            · have _q : True := trivial
              refine jx_if_ne (pc' := 146) (tg := 157) rfl rfl rfl (by decide) (by decide) (fun h1587 => ?_) (fun h1587 => ?_)
              · have _q := h1587
                exact absurd h1587 (by omega)
              · have _q := h1587
                refine jx_ld (pc' := 147) (l' := L1572) (st' := [.ref 66]) rfl (jl_aloadn gL1572_0) ?_
                refine jx_ar (pc' := 148) (st' := [.int (i32 (1)), .ref 66]) rfl rfl rfl rfl ?_
                refine jx_ld (pc' := 149) (l' := L1572) (st' := [.ref 66, .int (i32 (1)), .ref 66]) rfl (jl_aloadn gL1572_0) ?_
                have b1588 : (-3000 : Int) ≤ Gx 12 ∧ Gx 12 ≤ 3002 := hWx.1 12
                refine jr_get (pc' := 152) (i := 12) (v := .int (i32 (Gx 12))) rfl rfl (by decide) rfl rfl ?_
                refine jx_vr (pc' := 155) (as := [.int (i32 (1)), .int (i32 (Gx 12))]) (st := []) rfl rfl rfl rfl ⟨rfl, rfl, Nat.le_of_ble_eq_true rfl⟩ rfl rfl (c_fail (dd := d) (hd := by omega) (hW := hWx) (kind := 1) (place := Gx 12) (fk := fk1) (e_fk := show Gx 16 = fk1 from (ex_fk1))  (h_kind := ⟨(by decide), (by decide)⟩) (h_place := ⟨(Int.le_trans (by decide : (-2147483648 : Int) ≤ -3000) b1588.1), (Int.le_trans b1588.2 (by decide : (3002 : Int) ≤ 2147483647))⟩)  (p_0 := by omega) (p_1 := by omega)) (fun o V' hq => ?_)
                obtain ⟨G1589, A1590, fk2_1591, rfl, rfl, hW1592, hF1593, e1594, p1595, -⟩ := hq
                have hF1597 := Fr_tr hFx hF1593 (Fr_sub (by decide)) (Fr_sub (by decide))
                have hP1598 := Pf_f hPx hF1593 (by decide)
                have bfk2_1591 : (0 : Int) ≤ fk2_1591 ∧ fk2_1591 ≤ 6 := e1594 ▸ hW1592.1 16
                refine .inl ⟨rfl, ?_⟩
                refine jx_ar (pc' := 156) (st' := [.int (i32 (0))]) rfl rfl rfl rfl ?_
                refine jx_rt (v := some (.int (i32 (0)))) rfl rfl rfl rfl rfl rfl ?_
                exact ⟨_, _, _, at1, fk2_1591, nd1, ln, rfl, rfl, hW1592, hF1597, hP1598, by omega, ((hF1593.1 10 rfl).trans (ex_at1)), (e1594), ((hF1593.1 31 rfl).trans (ex_nd1)), ((hF1593.1 9 rfl).trans (fx_9)), by omega, by omega, by omega, by omega, by omega, by first | exact Or.inl (⟨by omega, by omega, by omega⟩) | exact Or.inr ((⟨by omega, by omega, by omega, by omega, by omega⟩))⟩
            · have _q : True := trivial
              refine jx_if_ne (pc' := 146) (tg := 157) rfl rfl rfl (Int.le_trans (by decide : (-2147483648 : Int) ≤ -2147483648) b1584.1) (Int.le_trans b1584.2 (by decide : (2147483647 : Int) ≤ 2147483647)) (fun h1599 => ?_) (fun h1599 => ?_)
              · have _q := h1599
                have z1600 := tz_f (tk1)
                exact at_157 L1572 Gx Ax (one) (pl) (s) (ix) (row) (0) (A 7 (s).toNat) (at1) (tk1) (fk1) (nd1) (op1) gL1572_0 gL1572_1 gL1572_3 gL1572_4 gL1572_5 gL1572_6 gL1572_7 gL1572_8 hWx hFx hPx ((ex_at1)) ((ex_tk1)) ((ex_fk1)) ((ex_nd1)) ((ex_op1)) ((fx_9)) (by omega) (by omega) (by omega) (by omega) (by omega) (by omega) (by omega) (by omega) (by omega) (by omega) (by omega) (by omega) (by omega) (by omega) (by omega) (by omega) (by omega) (by omega)
              · have _q := h1599
                refine jx_ld (pc' := 147) (l' := L1572) (st' := [.ref 66]) rfl (jl_aloadn gL1572_0) ?_
                refine jx_ar (pc' := 148) (st' := [.int (i32 (1)), .ref 66]) rfl rfl rfl rfl ?_
                refine jx_ld (pc' := 149) (l' := L1572) (st' := [.ref 66, .int (i32 (1)), .ref 66]) rfl (jl_aloadn gL1572_0) ?_
                have b1601 : (-3000 : Int) ≤ Gx 12 ∧ Gx 12 ≤ 3002 := hWx.1 12
                refine jr_get (pc' := 152) (i := 12) (v := .int (i32 (Gx 12))) rfl rfl (by decide) rfl rfl ?_
                refine jx_vr (pc' := 155) (as := [.int (i32 (1)), .int (i32 (Gx 12))]) (st := []) rfl rfl rfl rfl ⟨rfl, rfl, Nat.le_of_ble_eq_true rfl⟩ rfl rfl (c_fail (dd := d) (hd := by omega) (hW := hWx) (kind := 1) (place := Gx 12) (fk := fk1) (e_fk := show Gx 16 = fk1 from (ex_fk1))  (h_kind := ⟨(by decide), (by decide)⟩) (h_place := ⟨(Int.le_trans (by decide : (-2147483648 : Int) ≤ -3000) b1601.1), (Int.le_trans b1601.2 (by decide : (3002 : Int) ≤ 2147483647))⟩)  (p_0 := by omega) (p_1 := by omega)) (fun o V' hq => ?_)
                obtain ⟨G1602, A1603, fk2_1604, rfl, rfl, hW1605, hF1606, e1607, p1608, -⟩ := hq
                have hF1610 := Fr_tr hFx hF1606 (Fr_sub (by decide)) (Fr_sub (by decide))
                have hP1611 := Pf_f hPx hF1606 (by decide)
                have bfk2_1604 : (0 : Int) ≤ fk2_1604 ∧ fk2_1604 ≤ 6 := e1607 ▸ hW1605.1 16
                refine .inl ⟨rfl, ?_⟩
                refine jx_ar (pc' := 156) (st' := [.int (i32 (0))]) rfl rfl rfl rfl ?_
                refine jx_rt (v := some (.int (i32 (0)))) rfl rfl rfl rfl rfl rfl ?_
                exact ⟨_, _, _, at1, fk2_1604, nd1, ln, rfl, rfl, hW1605, hF1610, hP1611, by omega, ((hF1606.1 10 rfl).trans (ex_at1)), (e1607), ((hF1606.1 31 rfl).trans (ex_nd1)), ((hF1606.1 9 rfl).trans (fx_9)), by omega, by omega, by omega, by omega, by omega, by first | exact Or.inl (⟨by omega, by omega, by omega⟩) | exact Or.inr ((⟨by omega, by omega, by omega, by omega, by omega⟩))⟩
  refine jx_ld (pc' := 1) (l' := [(0, .ref 66)]) (st' := [.ref 66]) rfl (jl_aloadn rfl) ?_
  refine jx_ar (pc' := 3) (st' := [.int (i32 (33)), .ref 66]) rfl rfl rfl rfl ?_
  refine jx_ar (pc' := 4) (st' := [.int (i32 (0)), .int (i32 (33)), .ref 66]) rfl rfl rfl rfl ?_
  refine jx_ar (pc' := 5) (st' := [.int (i32 (0)), .int (i32 (0)), .int (i32 (33)), .ref 66]) rfl rfl rfl rfl ?_
  refine jx_ar (pc' := 6) (st' := [.int (i32 (0)), .int (i32 (0)), .int (i32 (0)), .int (i32 (33)), .ref 66]) rfl rfl rfl rfl ?_
  refine jx_ar (pc' := 7) (st' := [.int (i32 (0)), .int (i32 (0)), .int (i32 (0)), .int (i32 (0)), .int (i32 (33)), .ref 66]) rfl rfl rfl rfl ?_
  refine jx_vr (pc' := 10) (as := [.int (i32 (33)), .int (i32 (0)), .int (i32 (0)), .int (i32 (0)), .int (i32 (0))]) (st := []) rfl rfl rfl rfl ⟨rfl, rfl, Nat.le_of_ble_eq_true rfl⟩ rfl rfl (c_node (dd := d) (hd := by omega) (hW := hW) (kind := 33) (a := 0) (b := 0) (c := 0) (e := 0) (nd := nd) (e_nd := show G 31 = nd from (e_nd))  (h_kind := ⟨(by decide), (by decide)⟩) (h_a := ⟨(by decide), (by decide)⟩) (h_b := ⟨(by decide), (by decide)⟩) (h_c := ⟨(by decide), (by decide)⟩) (h_e := ⟨(by decide), (by decide)⟩)  (p_0 := by omega) (p_1 := by omega)) (fun o V' hq => ?_)
  obtain ⟨G1612, A1613, nd2_1614, rfl, rfl, hW1615, hF1616, hQ1617, e1618, p1619, -⟩ := hq
  have hF1621 := Fr_tr hF0 hF1616 (Fr_sub (by decide)) (Fr_sub (by decide))
  have hP1622 := Pf_tr hP0 hQ1617 (by omega)
  have bnd2_1614 : (0 : Int) ≤ nd2_1614 ∧ nd2_1614 ≤ 6999 := e1618 ▸ hW1615.1 31
  refine .inr ⟨_, rfl, ?_⟩
  refine jx_ld (pc' := 11) (l' := jSto1 [(0, .ref 66)] 1 (.int (i32 (nd)))) (st' := []) rfl rfl ?_
  obtain ⟨L1623, eL1623⟩ : ∃ q, q = jSto1 [(0, .ref 66)] 1 (.int (i32 (nd))) := ⟨_, rfl⟩
  rw [← eL1623]
  have gL1623_0 : jGet L1623 0 = some (.ref 66) := eL1623 ▸ jg_ne (by decide) (rfl : jGet [(0, .ref 66)] 0 = some (.ref 66)) rfl
  have gL1623_1 : jGet L1623 1 = some (.int (i32 (nd))) := eL1623 ▸ jg_eq
  refine jx_ar (pc' := 12) (st' := [.int (i32 (0))]) rfl rfl rfl rfl ?_
  refine jx_ld (pc' := 13) (l' := jSto1 L1623 2 (.int (i32 (0)))) (st' := []) rfl rfl ?_
  obtain ⟨L1624, eL1624⟩ : ∃ q, q = jSto1 L1623 2 (.int (i32 (0))) := ⟨_, rfl⟩
  rw [← eL1624]
  have gL1624_0 : jGet L1624 0 = some (.ref 66) := eL1624 ▸ jg_ne (by decide) gL1623_0 rfl
  have gL1624_1 : jGet L1624 1 = some (.int (i32 (nd))) := eL1624 ▸ jg_ne (by decide) gL1623_1 rfl
  have gL1624_2 : jGet L1624 2 = some (.int (i32 (0))) := eL1624 ▸ jg_eq
  refine jx_ld (pc' := 14) (l' := L1624) (st' := [.ref 66]) rfl (jl_aloadn gL1624_0) ?_
  have z1625 := tz_f (tk0)
  refine jr_get (pc' := 17) (i := 11) (v := .int (i32 (tk0))) rfl rfl (by decide) (rFv_eq (by decide) (show G1612 11 = tk0 from ((hF1616.1 11 rfl).trans (e_tk0)))) rfl ?_
  refine jx_ar (pc' := 18) (st' := [.int (i32 (1)), .int (i32 (tk0))]) rfl rfl rfl rfl ?_
  refine jx_icmp_ne (pc' := 21) (tg := 288) rfl rfl rfl (Int.le_trans (by decide : (-2147483648 : Int) ≤ 0) b_tk0.1) (Int.le_trans b_tk0.2 (by decide : (5 : Int) ≤ 2147483647)) (by decide) (by decide) (fun h1626 => ?_) (fun h1626 => ?_)
  · have _q := h1626
    refine jx_ld (pc' := 289) (l' := L1624) (st' := [.ref 66]) rfl (jl_aloadn gL1624_0) ?_
    refine jx_vr (pc' := 292) (as := []) (st := []) rfl rfl rfl rfl ⟨rfl, rfl, Nat.le_of_ble_eq_true rfl⟩ rfl rfl (RE_all X 9 (dd := d) (hd := by omega) (hW := hW1615)  (ln := ln) (e_ln := show G1612 9 = ln from ((hF1616.1 9 rfl).trans (e_ln))) (le := le) (e_le := show A1613 4 (ln).toNat = le from (congrFun (hF1616.2 4 rfl) _).trans (e_le)) (at0 := at0) (e_at0 := show G1612 10 = at0 from ((hF1616.1 10 rfl).trans (e_at0))) (fk := fk) (e_fk := show G1612 16 = fk from ((hF1616.1 16 rfl).trans (e_fk))) (op0 := op0) (e_op0 := show G1612 15 = op0 from ((hF1616.1 15 rfl).trans (e_op0))) (nd := nd2_1614) (e_nd := show G1612 31 = nd2_1614 from (e1618)) (tk0 := tk0) (e_tk0 := show G1612 11 = tk0 from ((hF1616.1 11 rfl).trans (e_tk0)))    (p_0 := by omega) (p_1 := by omega) (p_2 := by omega) (p_3 := by omega) (p_4 := by omega) (p_5 := by omega)) (fun o V' hq => ?_)
    obtain ⟨G1627, A1628, r1629, at2_1630, fk2_1631, op2_1632, nd2_1633, tk2_1634, rfl, rfl, hW1635, hF1636, hQ1637, b1638, e1639, e1640, e1641, e1642, e1643, p1644, p1645, p1646, p1647, p1648, p1649, q1650⟩ := hq
    have hF1651 := Fr_tr hF1621 hF1636 (Fr_sub (by decide)) (Fr_sub (by decide))
    have hP1652 := Pf_tr hP1622 hQ1637 (by omega)
    have bat2_1630 : (0 : Int) ≤ at2_1630 ∧ at2_1630 ≤ 3002 := e1639 ▸ hW1635.1 10
    have bfk2_1631 : (0 : Int) ≤ fk2_1631 ∧ fk2_1631 ≤ 6 := e1640 ▸ hW1635.1 16
    have bop2_1632 : (-2147483648 : Int) ≤ op2_1632 ∧ op2_1632 ≤ 2147483647 := e1641 ▸ hW1635.1 15
    have bnd2_1633 : (0 : Int) ≤ nd2_1633 ∧ nd2_1633 ≤ 6999 := e1642 ▸ hW1635.1 31
    have ztk2_1634 := tz_b tk2_1634
    have btk2_1634 : (0 : Int) ≤ tk2_1634 ∧ tk2_1634 ≤ 5 := e1643 ▸ hW1635.1 11
    refine .inr ⟨_, rfl, ?_⟩
    rcases q1650 with ⟨a1653, a1654, a1655, a1656, a1657, a1658⟩ | ⟨a1659, a1660, a1661⟩ | ⟨a1662, a1663, a1664⟩
    · have _q : True := trivial
      exfalso
      omega
    · have _q : True := trivial
      refine jx_ld (pc' := 293) (l' := jSto1 L1624 2 (.int (i32 (r1629)))) (st' := []) rfl rfl ?_
      obtain ⟨L1665, eL1665⟩ : ∃ q, q = jSto1 L1624 2 (.int (i32 (r1629))) := ⟨_, rfl⟩
      rw [← eL1665]
      have gL1665_0 : jGet L1665 0 = some (.ref 66) := eL1665 ▸ jg_ne (by decide) gL1624_0 rfl
      have gL1665_1 : jGet L1665 1 = some (.int (i32 (nd))) := eL1665 ▸ jg_ne (by decide) gL1624_1 rfl
      have gL1665_2 : jGet L1665 2 = some (.int (i32 (r1629))) := eL1665 ▸ jg_eq
      have z1666 := tz_f (tk2_1634)
      exact at_293 L1665 G1627 A1628 (nd) (r1629) (at2_1630) (tk2_1634) (fk2_1631) (nd2_1633) (op2_1632) gL1665_0 gL1665_1 gL1665_2 hW1635 hF1651 hP1652 ((e1639)) ((e1643)) ((e1640)) ((e1642)) ((e1641)) (((hF1636.1 9 rfl).trans ((hF1616.1 9 rfl).trans (e_ln)))) (by omega) (by omega) (by omega) (by omega) (by omega) (by omega) (by omega) (by omega) (by omega)
    · have _q : True := trivial
      refine jx_ld (pc' := 293) (l' := jSto1 L1624 2 (.int (i32 (r1629)))) (st' := []) rfl rfl ?_
      obtain ⟨L1667, eL1667⟩ : ∃ q, q = jSto1 L1624 2 (.int (i32 (r1629))) := ⟨_, rfl⟩
      rw [← eL1667]
      have gL1667_0 : jGet L1667 0 = some (.ref 66) := eL1667 ▸ jg_ne (by decide) gL1624_0 rfl
      have gL1667_1 : jGet L1667 1 = some (.int (i32 (nd))) := eL1667 ▸ jg_ne (by decide) gL1624_1 rfl
      have gL1667_2 : jGet L1667 2 = some (.int (i32 (r1629))) := eL1667 ▸ jg_eq
      have z1668 := tz_f (tk2_1634)
      exact at_293 L1667 G1627 A1628 (nd) (r1629) (at2_1630) (tk2_1634) (fk2_1631) (nd2_1633) (op2_1632) gL1667_0 gL1667_1 gL1667_2 hW1635 hF1651 hP1652 ((e1639)) ((e1643)) ((e1640)) ((e1642)) ((e1641)) (((hF1636.1 9 rfl).trans ((hF1616.1 9 rfl).trans (e_ln)))) (by omega) (by omega) (by omega) (by omega) (by omega) (by omega) (by omega) (by omega) (by omega)
  · have _q := h1626
    refine jx_ld (pc' := 22) (l' := L1624) (st' := [.ref 66]) rfl (jl_aloadn gL1624_0) ?_
    have b1669 : (-3000 : Int) ≤ G 12 ∧ G 12 ≤ 3002 := hW.1 12
    refine jr_get (pc' := 25) (i := 12) (v := .int (i32 (G 12))) rfl rfl (by decide) (rFv_eq (by decide) (show G1612 12 = G 12 from (hF1616.1 12 rfl))) rfl ?_
    refine jx_ld (pc' := 26) (l' := jSto1 L1624 3 (.int (i32 (G 12)))) (st' := []) rfl rfl ?_
    obtain ⟨L1670, eL1670⟩ : ∃ q, q = jSto1 L1624 3 (.int (i32 (G 12))) := ⟨_, rfl⟩
    rw [← eL1670]
    have gL1670_0 : jGet L1670 0 = some (.ref 66) := eL1670 ▸ jg_ne (by decide) gL1624_0 rfl
    have gL1670_1 : jGet L1670 1 = some (.int (i32 (nd))) := eL1670 ▸ jg_ne (by decide) gL1624_1 rfl
    have gL1670_2 : jGet L1670 2 = some (.int (i32 (0))) := eL1670 ▸ jg_ne (by decide) gL1624_2 rfl
    have gL1670_3 : jGet L1670 3 = some (.int (i32 (G 12))) := eL1670 ▸ jg_eq
    refine jx_ld (pc' := 27) (l' := L1670) (st' := [.ref 66]) rfl (jl_aloadn gL1670_0) ?_
    refine jx_vr (pc' := 30) (as := []) (st := []) rfl rfl rfl rfl ⟨rfl, rfl, Nat.le_of_ble_eq_true rfl⟩ rfl rfl (c_lookUp (dd := d) (hd := by omega) (hW := hW1615)  (fk := fk) (e_fk := show G1612 16 = fk from ((hF1616.1 16 rfl).trans (e_fk)))    ) (fun o V' hq => ?_)
    obtain ⟨G1671, A1672, r1673, fk2_1674, rfl, rfl, hW1675, hF1676, b1677, e1678, q1679⟩ := hq
    have hF1680 := Fr_tr hF1621 hF1676 (Fr_sub (by decide)) (Fr_sub (by decide))
    have hP1681 := Pf_f hP1622 hF1676 (by decide)
    have bfk2_1674 : (0 : Int) ≤ fk2_1674 ∧ fk2_1674 ≤ 6 := e1678 ▸ hW1675.1 16
    refine .inr ⟨_, rfl, ?_⟩
    rcases q1679 with ⟨a1682, a1683⟩ | ⟨a1684, a1685, a1686⟩
    · have _q : True := trivial
      refine jx_ld (pc' := 32) (l' := jSto1 L1670 4 (.int (i32 (r1673)))) (st' := []) rfl rfl ?_
      obtain ⟨L1687, eL1687⟩ : ∃ q, q = jSto1 L1670 4 (.int (i32 (r1673))) := ⟨_, rfl⟩
      rw [← eL1687]
      have gL1687_0 : jGet L1687 0 = some (.ref 66) := eL1687 ▸ jg_ne (by decide) gL1670_0 rfl
      have gL1687_1 : jGet L1687 1 = some (.int (i32 (nd))) := eL1687 ▸ jg_ne (by decide) gL1670_1 rfl
      have gL1687_2 : jGet L1687 2 = some (.int (i32 (0))) := eL1687 ▸ jg_ne (by decide) gL1670_2 rfl
      have gL1687_3 : jGet L1687 3 = some (.int (i32 (G 12))) := eL1687 ▸ jg_ne (by decide) gL1670_3 rfl
      have gL1687_4 : jGet L1687 4 = some (.int (i32 (r1673))) := eL1687 ▸ jg_eq
      refine jx_ld (pc' := 33) (l' := L1687) (st' := [.ref 66]) rfl (jl_aloadn gL1687_0) ?_
      refine jx_vr (pc' := 36) (as := []) (st := []) rfl rfl rfl rfl ⟨rfl, rfl, Nat.le_of_ble_eq_true rfl⟩ rfl rfl (c_bad (dd := d) (hd := by omega) (hW := hW1675)  (fk := fk2_1674) (e_fk := show G1671 16 = fk2_1674 from (e1678))    ) (fun o V' hq => ?_)
      obtain ⟨r1688, rfl, rfl, b1689, q1690⟩ := hq
      refine .inr ⟨_, rfl, ?_⟩
      rcases q1690 with ⟨rfl, a1691⟩ | ⟨rfl, a1692⟩
      · have _q : True := trivial
        refine jx_if_eq (pc' := 39) (tg := 41) rfl rfl rfl (by decide) (by decide) (fun h1693 => ?_) (fun h1693 => ?_)
        · have _q := h1693
          exact absurd h1693 (by omega)
        · have _q := h1693
          refine jx_ar (pc' := 40) (st' := [.int (i32 (0))]) rfl rfl rfl rfl ?_
          refine jx_rt (v := some (.int (i32 (0)))) rfl rfl rfl rfl rfl rfl ?_
          exact ⟨_, _, _, at0, fk2_1674, nd2_1614, ln, rfl, rfl, hW1675, hF1680, hP1681, by omega, ((hF1676.1 10 rfl).trans ((hF1616.1 10 rfl).trans (e_at0))), (e1678), ((hF1676.1 31 rfl).trans (e1618)), ((hF1676.1 9 rfl).trans ((hF1616.1 9 rfl).trans (e_ln))), by omega, by omega, by omega, by omega, by omega, by first | exact Or.inl (⟨by omega, by omega, by omega⟩) | exact Or.inr ((⟨by omega, by omega, by omega, by omega, by omega⟩))⟩
      · have _q : True := trivial
        exfalso
        omega
    · have _q : True := trivial
      refine jx_ld (pc' := 32) (l' := jSto1 L1670 4 (.int (i32 (r1673)))) (st' := []) rfl rfl ?_
      obtain ⟨L1694, eL1694⟩ : ∃ q, q = jSto1 L1670 4 (.int (i32 (r1673))) := ⟨_, rfl⟩
      rw [← eL1694]
      have gL1694_0 : jGet L1694 0 = some (.ref 66) := eL1694 ▸ jg_ne (by decide) gL1670_0 rfl
      have gL1694_1 : jGet L1694 1 = some (.int (i32 (nd))) := eL1694 ▸ jg_ne (by decide) gL1670_1 rfl
      have gL1694_2 : jGet L1694 2 = some (.int (i32 (0))) := eL1694 ▸ jg_ne (by decide) gL1670_2 rfl
      have gL1694_3 : jGet L1694 3 = some (.int (i32 (G 12))) := eL1694 ▸ jg_ne (by decide) gL1670_3 rfl
      have gL1694_4 : jGet L1694 4 = some (.int (i32 (r1673))) := eL1694 ▸ jg_eq
      refine jx_ld (pc' := 33) (l' := L1694) (st' := [.ref 66]) rfl (jl_aloadn gL1694_0) ?_
      refine jx_vr (pc' := 36) (as := []) (st := []) rfl rfl rfl rfl ⟨rfl, rfl, Nat.le_of_ble_eq_true rfl⟩ rfl rfl (c_bad (dd := d) (hd := by omega) (hW := hW1675)  (fk := fk2_1674) (e_fk := show G1671 16 = fk2_1674 from (e1678))    ) (fun o V' hq => ?_)
      obtain ⟨r1695, rfl, rfl, b1696, q1697⟩ := hq
      refine .inr ⟨_, rfl, ?_⟩
      rcases q1697 with ⟨rfl, a1698⟩ | ⟨rfl, a1699⟩
      · have _q : True := trivial
        exfalso
        omega
      · have _q : True := trivial
        refine jx_if_eq (pc' := 39) (tg := 41) rfl rfl rfl (by decide) (by decide) (fun h1700 => ?_) (fun h1700 => ?_)
        · have _q := h1700
          refine jx_ld (pc' := 42) (l' := L1694) (st' := [.ref 66]) rfl (jl_aloadn gL1694_0) ?_
          refine jx_vr (pc' := 45) (as := []) (st := []) rfl rfl rfl rfl ⟨rfl, rfl, Nat.le_of_ble_eq_true rfl⟩ rfl rfl (c_next (dd := d) (hd := by omega) (hW := hW1675)  (ln := ln) (e_ln := show G1671 9 = ln from ((hF1676.1 9 rfl).trans ((hF1616.1 9 rfl).trans (e_ln)))) (le := le) (e_le := show A1672 4 (ln).toNat = le from (congrFun ((hF1676.2 4 rfl).trans (hF1616.2 4 rfl)) _).trans (e_le)) (at0 := at0) (e_at0 := show G1671 10 = at0 from ((hF1676.1 10 rfl).trans ((hF1616.1 10 rfl).trans (e_at0))))    (p_0 := by omega)) (fun o V' hq => ?_)
          obtain ⟨G1701, A1702, at2_1703, tk2_1704, rfl, rfl, hW1705, hF1706, e1707, e1708, p1709, p1710, p1711, -⟩ := hq
          have hF1713 := Fr_tr hF1680 hF1706 (Fr_sub (by decide)) (Fr_sub (by decide))
          have hP1714 := Pf_f hP1681 hF1706 (by decide)
          have bat2_1703 : (0 : Int) ≤ at2_1703 ∧ at2_1703 ≤ 3002 := e1707 ▸ hW1705.1 10
          have ztk2_1704 := tz_b tk2_1704
          have btk2_1704 : (0 : Int) ≤ tk2_1704 ∧ tk2_1704 ≤ 5 := e1708 ▸ hW1705.1 11
          refine .inl ⟨rfl, ?_⟩
          refine jx_ar (pc' := 46) (st' := [.int (i32 (0))]) rfl rfl rfl rfl ?_
          refine jx_ld (pc' := 48) (l' := jSto1 L1694 5 (.int (i32 (0)))) (st' := []) rfl rfl ?_
          obtain ⟨L1715, eL1715⟩ : ∃ q, q = jSto1 L1694 5 (.int (i32 (0))) := ⟨_, rfl⟩
          rw [← eL1715]
          have gL1715_0 : jGet L1715 0 = some (.ref 66) := eL1715 ▸ jg_ne (by decide) gL1694_0 rfl
          have gL1715_1 : jGet L1715 1 = some (.int (i32 (nd))) := eL1715 ▸ jg_ne (by decide) gL1694_1 rfl
          have gL1715_2 : jGet L1715 2 = some (.int (i32 (0))) := eL1715 ▸ jg_ne (by decide) gL1694_2 rfl
          have gL1715_3 : jGet L1715 3 = some (.int (i32 (G 12))) := eL1715 ▸ jg_ne (by decide) gL1694_3 rfl
          have gL1715_4 : jGet L1715 4 = some (.int (i32 (r1673))) := eL1715 ▸ jg_ne (by decide) gL1694_4 rfl
          have gL1715_5 : jGet L1715 5 = some (.int (i32 (0))) := eL1715 ▸ jg_eq
          refine jx_ld (pc' := 49) (l' := L1715) (st' := [.ref 66]) rfl (jl_aloadn gL1715_0) ?_
          refine jx_ar (pc' := 51) (st' := [.int (i32 (91)), .ref 66]) rfl rfl rfl rfl ?_
          have b1716 : (-2147483648 : Int) ≤ G1701 13 ∧ G1701 13 ≤ 2147483647 := hW1705.1 13
          refine jx_vr (pc' := 54) (as := [.int (i32 (91))]) (st := []) rfl rfl rfl rfl ⟨rfl, rfl, Nat.le_of_ble_eq_true rfl⟩ rfl rfl (c_is (dd := d) (hd := by omega) (hW := hW1705) (k := 91) (tk := tk2_1704) (e_tk := show G1701 11 = tk2_1704 from (e1708)) (tn := G1701 13) (e_tn := show G1701 13 = G1701 13 from rfl)  (h_k := ⟨(by decide), (by decide)⟩)  ) (fun o V' hq => ?_)
          obtain ⟨r1717, rfl, rfl, b1718, q1719⟩ := hq
          refine .inr ⟨_, rfl, ?_⟩
          rcases q1719 with ⟨rfl, a1720, a1721, a1722⟩ | rfl
          · have _q : True := trivial
            refine jx_ld (pc' := 56) (l' := jSto1 L1715 6 (.int (i32 (1)))) (st' := []) rfl rfl ?_
            obtain ⟨L1723, eL1723⟩ : ∃ q, q = jSto1 L1715 6 (.int (i32 (1))) := ⟨_, rfl⟩
            rw [← eL1723]
            have gL1723_0 : jGet L1723 0 = some (.ref 66) := eL1723 ▸ jg_ne (by decide) gL1715_0 rfl
            have gL1723_1 : jGet L1723 1 = some (.int (i32 (nd))) := eL1723 ▸ jg_ne (by decide) gL1715_1 rfl
            have gL1723_2 : jGet L1723 2 = some (.int (i32 (0))) := eL1723 ▸ jg_ne (by decide) gL1715_2 rfl
            have gL1723_3 : jGet L1723 3 = some (.int (i32 (G 12))) := eL1723 ▸ jg_ne (by decide) gL1715_3 rfl
            have gL1723_4 : jGet L1723 4 = some (.int (i32 (r1673))) := eL1723 ▸ jg_ne (by decide) gL1715_4 rfl
            have gL1723_5 : jGet L1723 5 = some (.int (i32 (0))) := eL1723 ▸ jg_ne (by decide) gL1715_5 rfl
            have gL1723_6 : jGet L1723 6 = some (.int (i32 (1))) := eL1723 ▸ jg_eq
            refine jx_ld (pc' := 58) (l' := L1723) (st' := [.int (i32 (1))]) rfl (jl_iload gL1723_6) ?_
            refine jx_if_eq (pc' := 61) (tg := 99) rfl rfl rfl (by decide) (by decide) (fun h1724 => ?_) (fun h1724 => ?_)
            · have _q := h1724
              exact absurd h1724 (by omega)
            · have _q := h1724
              refine jx_ld (pc' := 62) (l' := L1723) (st' := [.ref 66]) rfl (jl_aloadn gL1723_0) ?_
              refine jr_get (pc' := 65) (i := 21) (v := .ref 74) rfl rfl (by decide) rfl rfl ?_
              refine jx_ld (pc' := 67) (l' := L1723) (st' := [.int (i32 (r1673)), .ref 74]) rfl (jl_iload gL1723_4) ?_
              have b1725 : (0 : Int) ≤ A 7 (r1673).toNat ∧ A 7 (r1673).toNat ≤ 14 := hW.2 7 _
              refine jr_ldv (pc' := 68) (i := 7) (m := 260) (z := r1673) (y := A 7 (r1673).toNat) rfl (by decide) rfl (by decide) (by omega) (by omega) rfl (show A1702 7 (r1673).toNat = A 7 (r1673).toNat from (congrFun ((hF1706.2 7 rfl).trans ((hF1676.2 7 rfl).trans (hF1616.2 7 rfl))) _)) ?_
              refine jx_st (pc' := 71) (as := [.int (i32 (A 7 (r1673).toNat))]) (st := []) rfl rfl ⟨rfl, Nat.le_of_ble_eq_true rfl⟩ rfl rfl rfl (c_isArray (dd := d) (hd := by omega) (k := A 7 (r1673).toNat)   (h_k := ⟨(Int.le_trans (by decide : (-2147483648 : Int) ≤ 0) b1725.1), (Int.le_trans b1725.2 (by decide : (14 : Int) ≤ 2147483647))⟩)  ) (fun o V' hq => ?_)
              obtain ⟨r1726, rfl, rfl, b1727, q1728⟩ := hq
              refine .inr ⟨_, rfl, ?_⟩
              rcases q1728 with rfl | rfl
              · have _q : True := trivial
                refine jx_if_ne (pc' := 74) (tg := 93) rfl rfl rfl (by decide) (by decide) (fun h1729 => ?_) (fun h1729 => ?_)
                · have _q := h1729
                  refine jx_ld (pc' := 94) (l' := L1723) (st' := [.ref 66]) rfl (jl_aloadn gL1723_0) ?_
                  refine jx_vr (pc' := 97) (as := []) (st := []) rfl rfl rfl rfl ⟨rfl, rfl, Nat.le_of_ble_eq_true rfl⟩ rfl rfl (c_readIndex (dd := d) (k := 9) (hE := RE_all X 9) (hd := by omega) (hW := hW1705)  (ln := ln) (e_ln := show G1701 9 = ln from ((hF1706.1 9 rfl).trans ((hF1676.1 9 rfl).trans ((hF1616.1 9 rfl).trans (e_ln))))) (le := le) (e_le := show A1702 4 (ln).toNat = le from (congrFun ((hF1706.2 4 rfl).trans ((hF1676.2 4 rfl).trans (hF1616.2 4 rfl))) _).trans (e_le)) (at0 := at2_1703) (e_at0 := show G1701 10 = at2_1703 from (e1707)) (fk := fk2_1674) (e_fk := show G1701 16 = fk2_1674 from ((hF1706.1 16 rfl).trans (e1678))) (op0 := op0) (e_op0 := show G1701 15 = op0 from ((hF1706.1 15 rfl).trans ((hF1676.1 15 rfl).trans ((hF1616.1 15 rfl).trans (e_op0))))) (nd := nd2_1614) (e_nd := show G1701 31 = nd2_1614 from ((hF1706.1 31 rfl).trans ((hF1676.1 31 rfl).trans (e1618)))) (tk0 := tk2_1704) (e_tk0 := show G1701 11 = tk2_1704 from (e1708))    (p_0 := by omega) (p_1 := by omega) (p_2 := by omega) (p_3 := by omega) (p_4 := by omega) (p_5 := by omega) (p_6 := by omega) (p_7 := by omega) (p_8 := by omega)) (fun o V' hq => ?_)
                  obtain ⟨G1730, A1731, r1732, at2_1733, fk2_1734, op2_1735, nd2_1736, tk2_1737, rfl, rfl, hW1738, hF1739, hQ1740, b1741, e1742, e1743, e1744, e1745, e1746, p1747, p1748, p1749, p1750, p1751, p1752, q1753⟩ := hq
                  have hF1754 := Fr_tr hF1713 hF1739 (Fr_sub (by decide)) (Fr_sub (by decide))
                  have hP1755 := Pf_tr hP1714 hQ1740 (by omega)
                  have bat2_1733 : (0 : Int) ≤ at2_1733 ∧ at2_1733 ≤ 3002 := e1742 ▸ hW1738.1 10
                  have bfk2_1734 : (0 : Int) ≤ fk2_1734 ∧ fk2_1734 ≤ 6 := e1743 ▸ hW1738.1 16
                  have bop2_1735 : (-2147483648 : Int) ≤ op2_1735 ∧ op2_1735 ≤ 2147483647 := e1744 ▸ hW1738.1 15
                  have bnd2_1736 : (0 : Int) ≤ nd2_1736 ∧ nd2_1736 ≤ 6999 := e1745 ▸ hW1738.1 31
                  have ztk2_1737 := tz_b tk2_1737
                  have btk2_1737 : (0 : Int) ≤ tk2_1737 ∧ tk2_1737 ≤ 5 := e1746 ▸ hW1738.1 11
                  refine .inr ⟨_, rfl, ?_⟩
                  rcases q1753 with ⟨a1756, a1757, a1758⟩ | ⟨a1759, a1760, a1761⟩
                  · have _q : True := trivial
                    refine jx_ld (pc' := 99) (l' := jSto1 L1723 5 (.int (i32 (r1732)))) (st' := []) rfl rfl ?_
                    obtain ⟨L1762, eL1762⟩ : ∃ q, q = jSto1 L1723 5 (.int (i32 (r1732))) := ⟨_, rfl⟩
                    rw [← eL1762]
                    have gL1762_0 : jGet L1762 0 = some (.ref 66) := eL1762 ▸ jg_ne (by decide) gL1723_0 rfl
                    have gL1762_1 : jGet L1762 1 = some (.int (i32 (nd))) := eL1762 ▸ jg_ne (by decide) gL1723_1 rfl
                    have gL1762_2 : jGet L1762 2 = some (.int (i32 (0))) := eL1762 ▸ jg_ne (by decide) gL1723_2 rfl
                    have gL1762_3 : jGet L1762 3 = some (.int (i32 (G 12))) := eL1762 ▸ jg_ne (by decide) gL1723_3 rfl
                    have gL1762_4 : jGet L1762 4 = some (.int (i32 (r1673))) := eL1762 ▸ jg_ne (by decide) gL1723_4 rfl
                    have gL1762_6 : jGet L1762 6 = some (.int (i32 (1))) := eL1762 ▸ jg_ne (by decide) gL1723_6 rfl
                    have gL1762_5 : jGet L1762 5 = some (.int (i32 (r1732))) := eL1762 ▸ jg_eq
                    refine jx_ld (pc' := 100) (l' := L1762) (st' := [.ref 66]) rfl (jl_aloadn gL1762_0) ?_
                    refine jx_vr (pc' := 103) (as := []) (st := []) rfl rfl rfl rfl ⟨rfl, rfl, Nat.le_of_ble_eq_true rfl⟩ rfl rfl (c_bad (dd := d) (hd := by omega) (hW := hW1738)  (fk := fk2_1734) (e_fk := show G1730 16 = fk2_1734 from (e1743))    ) (fun o V' hq => ?_)
                    obtain ⟨r1763, rfl, rfl, b1764, q1765⟩ := hq
                    refine .inr ⟨_, rfl, ?_⟩
                    rcases q1765 with ⟨rfl, a1766⟩ | ⟨rfl, a1767⟩
                    · have _q : True := trivial
                      refine jx_if_eq (pc' := 106) (tg := 108) rfl rfl rfl (by decide) (by decide) (fun h1768 => ?_) (fun h1768 => ?_)
                      · have _q := h1768
                        exact absurd h1768 (by omega)
                      · have _q := h1768
                        refine jx_ar (pc' := 107) (st' := [.int (i32 (0))]) rfl rfl rfl rfl ?_
                        refine jx_rt (v := some (.int (i32 (0)))) rfl rfl rfl rfl rfl rfl ?_
                        exact ⟨_, _, _, at2_1733, fk2_1734, nd2_1736, ln, rfl, rfl, hW1738, hF1754, hP1755, by omega, (e1742), (e1743), (e1745), ((hF1739.1 9 rfl).trans ((hF1706.1 9 rfl).trans ((hF1676.1 9 rfl).trans ((hF1616.1 9 rfl).trans (e_ln))))), by omega, by omega, by omega, by omega, by omega, by first | exact Or.inl (⟨by omega, by omega, by omega⟩) | exact Or.inr ((⟨by omega, by omega, by omega, by omega, by omega⟩))⟩
                    · have _q : True := trivial
                      exfalso
                      omega
                  · have _q : True := trivial
                    refine jx_ld (pc' := 99) (l' := jSto1 L1723 5 (.int (i32 (r1732)))) (st' := []) rfl rfl ?_
                    obtain ⟨L1769, eL1769⟩ : ∃ q, q = jSto1 L1723 5 (.int (i32 (r1732))) := ⟨_, rfl⟩
                    rw [← eL1769]
                    have gL1769_0 : jGet L1769 0 = some (.ref 66) := eL1769 ▸ jg_ne (by decide) gL1723_0 rfl
                    have gL1769_1 : jGet L1769 1 = some (.int (i32 (nd))) := eL1769 ▸ jg_ne (by decide) gL1723_1 rfl
                    have gL1769_2 : jGet L1769 2 = some (.int (i32 (0))) := eL1769 ▸ jg_ne (by decide) gL1723_2 rfl
                    have gL1769_3 : jGet L1769 3 = some (.int (i32 (G 12))) := eL1769 ▸ jg_ne (by decide) gL1723_3 rfl
                    have gL1769_4 : jGet L1769 4 = some (.int (i32 (r1673))) := eL1769 ▸ jg_ne (by decide) gL1723_4 rfl
                    have gL1769_6 : jGet L1769 6 = some (.int (i32 (1))) := eL1769 ▸ jg_ne (by decide) gL1723_6 rfl
                    have gL1769_5 : jGet L1769 5 = some (.int (i32 (r1732))) := eL1769 ▸ jg_eq
                    refine jx_ld (pc' := 100) (l' := L1769) (st' := [.ref 66]) rfl (jl_aloadn gL1769_0) ?_
                    refine jx_vr (pc' := 103) (as := []) (st := []) rfl rfl rfl rfl ⟨rfl, rfl, Nat.le_of_ble_eq_true rfl⟩ rfl rfl (c_bad (dd := d) (hd := by omega) (hW := hW1738)  (fk := fk2_1734) (e_fk := show G1730 16 = fk2_1734 from (e1743))    ) (fun o V' hq => ?_)
                    obtain ⟨r1770, rfl, rfl, b1771, q1772⟩ := hq
                    refine .inr ⟨_, rfl, ?_⟩
                    rcases q1772 with ⟨rfl, a1773⟩ | ⟨rfl, a1774⟩
                    · have _q : True := trivial
                      exfalso
                      omega
                    · have _q : True := trivial
                      refine jx_if_eq (pc' := 106) (tg := 108) rfl rfl rfl (by decide) (by decide) (fun h1775 => ?_) (fun h1775 => ?_)
                      · have _q := h1775
                        have z1776 := tz_f (tk2_1737)
                        exact at_108 L1769 G1730 A1731 (nd) (G 12) (r1673) (r1732) (1) (at2_1733) (tk2_1737) (fk2_1734) (nd2_1736) (op2_1735) gL1769_0 gL1769_1 gL1769_3 gL1769_4 gL1769_5 gL1769_6 hW1738 hF1754 hP1755 ((e1742)) ((e1746)) ((e1743)) ((e1745)) ((e1744)) (((hF1739.1 9 rfl).trans ((hF1706.1 9 rfl).trans ((hF1676.1 9 rfl).trans ((hF1616.1 9 rfl).trans (e_ln)))))) (by omega) (by omega) (by omega) (by omega) (by omega) (by omega) (by omega) (by omega) (by omega) (by omega) (by omega) (by omega) (by omega) (by omega) (by omega)
                      · have _q := h1775
                        exact absurd h1775 (by omega)
                · have _q := h1729
                  exact absurd h1729 (by omega)
              · have _q : True := trivial
                refine jx_if_ne (pc' := 74) (tg := 93) rfl rfl rfl (by decide) (by decide) (fun h1777 => ?_) (fun h1777 => ?_)
                · have _q := h1777
                  exact absurd h1777 (by omega)
                · have _q := h1777
                  refine jx_ld (pc' := 75) (l' := L1723) (st' := [.ref 66]) rfl (jl_aloadn gL1723_0) ?_
                  refine jr_get (pc' := 78) (i := 21) (v := .ref 74) rfl rfl (by decide) rfl rfl ?_
                  refine jx_ld (pc' := 80) (l' := L1723) (st' := [.int (i32 (r1673)), .ref 74]) rfl (jl_iload gL1723_4) ?_
                  refine jr_ldv (pc' := 81) (i := 7) (m := 260) (z := r1673) (y := A 7 (r1673).toNat) rfl (by decide) rfl (by decide) (by omega) (by omega) rfl (show A1702 7 (r1673).toNat = A 7 (r1673).toNat from (congrFun ((hF1706.2 7 rfl).trans ((hF1676.2 7 rfl).trans (hF1616.2 7 rfl))) _)) ?_
                  refine jx_ar (pc' := 82) (st' := [.int (i32 (4)), .int (i32 (A 7 (r1673).toNat))]) rfl rfl rfl rfl ?_
                  refine jx_icmp_eq (pc' := 85) (tg := 93) rfl rfl rfl (Int.le_trans (by decide : (-2147483648 : Int) ≤ 0) b1725.1) (Int.le_trans b1725.2 (by decide : (14 : Int) ≤ 2147483647)) (by decide) (by decide) (fun h1778 => ?_) (fun h1778 => ?_)
                  · have _q := h1778
                    refine jx_ld (pc' := 94) (l' := L1723) (st' := [.ref 66]) rfl (jl_aloadn gL1723_0) ?_
                    refine jx_vr (pc' := 97) (as := []) (st := []) rfl rfl rfl rfl ⟨rfl, rfl, Nat.le_of_ble_eq_true rfl⟩ rfl rfl (c_readIndex (dd := d) (k := 9) (hE := RE_all X 9) (hd := by omega) (hW := hW1705)  (ln := ln) (e_ln := show G1701 9 = ln from ((hF1706.1 9 rfl).trans ((hF1676.1 9 rfl).trans ((hF1616.1 9 rfl).trans (e_ln))))) (le := le) (e_le := show A1702 4 (ln).toNat = le from (congrFun ((hF1706.2 4 rfl).trans ((hF1676.2 4 rfl).trans (hF1616.2 4 rfl))) _).trans (e_le)) (at0 := at2_1703) (e_at0 := show G1701 10 = at2_1703 from (e1707)) (fk := fk2_1674) (e_fk := show G1701 16 = fk2_1674 from ((hF1706.1 16 rfl).trans (e1678))) (op0 := op0) (e_op0 := show G1701 15 = op0 from ((hF1706.1 15 rfl).trans ((hF1676.1 15 rfl).trans ((hF1616.1 15 rfl).trans (e_op0))))) (nd := nd2_1614) (e_nd := show G1701 31 = nd2_1614 from ((hF1706.1 31 rfl).trans ((hF1676.1 31 rfl).trans (e1618)))) (tk0 := tk2_1704) (e_tk0 := show G1701 11 = tk2_1704 from (e1708))    (p_0 := by omega) (p_1 := by omega) (p_2 := by omega) (p_3 := by omega) (p_4 := by omega) (p_5 := by omega) (p_6 := by omega) (p_7 := by omega) (p_8 := by omega)) (fun o V' hq => ?_)
                    obtain ⟨G1779, A1780, r1781, at2_1782, fk2_1783, op2_1784, nd2_1785, tk2_1786, rfl, rfl, hW1787, hF1788, hQ1789, b1790, e1791, e1792, e1793, e1794, e1795, p1796, p1797, p1798, p1799, p1800, p1801, q1802⟩ := hq
                    have hF1803 := Fr_tr hF1713 hF1788 (Fr_sub (by decide)) (Fr_sub (by decide))
                    have hP1804 := Pf_tr hP1714 hQ1789 (by omega)
                    have bat2_1782 : (0 : Int) ≤ at2_1782 ∧ at2_1782 ≤ 3002 := e1791 ▸ hW1787.1 10
                    have bfk2_1783 : (0 : Int) ≤ fk2_1783 ∧ fk2_1783 ≤ 6 := e1792 ▸ hW1787.1 16
                    have bop2_1784 : (-2147483648 : Int) ≤ op2_1784 ∧ op2_1784 ≤ 2147483647 := e1793 ▸ hW1787.1 15
                    have bnd2_1785 : (0 : Int) ≤ nd2_1785 ∧ nd2_1785 ≤ 6999 := e1794 ▸ hW1787.1 31
                    have ztk2_1786 := tz_b tk2_1786
                    have btk2_1786 : (0 : Int) ≤ tk2_1786 ∧ tk2_1786 ≤ 5 := e1795 ▸ hW1787.1 11
                    refine .inr ⟨_, rfl, ?_⟩
                    rcases q1802 with ⟨a1805, a1806, a1807⟩ | ⟨a1808, a1809, a1810⟩
                    · have _q : True := trivial
                      refine jx_ld (pc' := 99) (l' := jSto1 L1723 5 (.int (i32 (r1781)))) (st' := []) rfl rfl ?_
                      obtain ⟨L1811, eL1811⟩ : ∃ q, q = jSto1 L1723 5 (.int (i32 (r1781))) := ⟨_, rfl⟩
                      rw [← eL1811]
                      have gL1811_0 : jGet L1811 0 = some (.ref 66) := eL1811 ▸ jg_ne (by decide) gL1723_0 rfl
                      have gL1811_1 : jGet L1811 1 = some (.int (i32 (nd))) := eL1811 ▸ jg_ne (by decide) gL1723_1 rfl
                      have gL1811_2 : jGet L1811 2 = some (.int (i32 (0))) := eL1811 ▸ jg_ne (by decide) gL1723_2 rfl
                      have gL1811_3 : jGet L1811 3 = some (.int (i32 (G 12))) := eL1811 ▸ jg_ne (by decide) gL1723_3 rfl
                      have gL1811_4 : jGet L1811 4 = some (.int (i32 (r1673))) := eL1811 ▸ jg_ne (by decide) gL1723_4 rfl
                      have gL1811_6 : jGet L1811 6 = some (.int (i32 (1))) := eL1811 ▸ jg_ne (by decide) gL1723_6 rfl
                      have gL1811_5 : jGet L1811 5 = some (.int (i32 (r1781))) := eL1811 ▸ jg_eq
                      refine jx_ld (pc' := 100) (l' := L1811) (st' := [.ref 66]) rfl (jl_aloadn gL1811_0) ?_
                      refine jx_vr (pc' := 103) (as := []) (st := []) rfl rfl rfl rfl ⟨rfl, rfl, Nat.le_of_ble_eq_true rfl⟩ rfl rfl (c_bad (dd := d) (hd := by omega) (hW := hW1787)  (fk := fk2_1783) (e_fk := show G1779 16 = fk2_1783 from (e1792))    ) (fun o V' hq => ?_)
                      obtain ⟨r1812, rfl, rfl, b1813, q1814⟩ := hq
                      refine .inr ⟨_, rfl, ?_⟩
                      rcases q1814 with ⟨rfl, a1815⟩ | ⟨rfl, a1816⟩
                      · have _q : True := trivial
                        refine jx_if_eq (pc' := 106) (tg := 108) rfl rfl rfl (by decide) (by decide) (fun h1817 => ?_) (fun h1817 => ?_)
                        · have _q := h1817
                          exact absurd h1817 (by omega)
                        · have _q := h1817
                          refine jx_ar (pc' := 107) (st' := [.int (i32 (0))]) rfl rfl rfl rfl ?_
                          refine jx_rt (v := some (.int (i32 (0)))) rfl rfl rfl rfl rfl rfl ?_
                          exact ⟨_, _, _, at2_1782, fk2_1783, nd2_1785, ln, rfl, rfl, hW1787, hF1803, hP1804, by omega, (e1791), (e1792), (e1794), ((hF1788.1 9 rfl).trans ((hF1706.1 9 rfl).trans ((hF1676.1 9 rfl).trans ((hF1616.1 9 rfl).trans (e_ln))))), by omega, by omega, by omega, by omega, by omega, by first | exact Or.inl (⟨by omega, by omega, by omega⟩) | exact Or.inr ((⟨by omega, by omega, by omega, by omega, by omega⟩))⟩
                      · have _q : True := trivial
                        exfalso
                        omega
                    · have _q : True := trivial
                      refine jx_ld (pc' := 99) (l' := jSto1 L1723 5 (.int (i32 (r1781)))) (st' := []) rfl rfl ?_
                      obtain ⟨L1818, eL1818⟩ : ∃ q, q = jSto1 L1723 5 (.int (i32 (r1781))) := ⟨_, rfl⟩
                      rw [← eL1818]
                      have gL1818_0 : jGet L1818 0 = some (.ref 66) := eL1818 ▸ jg_ne (by decide) gL1723_0 rfl
                      have gL1818_1 : jGet L1818 1 = some (.int (i32 (nd))) := eL1818 ▸ jg_ne (by decide) gL1723_1 rfl
                      have gL1818_2 : jGet L1818 2 = some (.int (i32 (0))) := eL1818 ▸ jg_ne (by decide) gL1723_2 rfl
                      have gL1818_3 : jGet L1818 3 = some (.int (i32 (G 12))) := eL1818 ▸ jg_ne (by decide) gL1723_3 rfl
                      have gL1818_4 : jGet L1818 4 = some (.int (i32 (r1673))) := eL1818 ▸ jg_ne (by decide) gL1723_4 rfl
                      have gL1818_6 : jGet L1818 6 = some (.int (i32 (1))) := eL1818 ▸ jg_ne (by decide) gL1723_6 rfl
                      have gL1818_5 : jGet L1818 5 = some (.int (i32 (r1781))) := eL1818 ▸ jg_eq
                      refine jx_ld (pc' := 100) (l' := L1818) (st' := [.ref 66]) rfl (jl_aloadn gL1818_0) ?_
                      refine jx_vr (pc' := 103) (as := []) (st := []) rfl rfl rfl rfl ⟨rfl, rfl, Nat.le_of_ble_eq_true rfl⟩ rfl rfl (c_bad (dd := d) (hd := by omega) (hW := hW1787)  (fk := fk2_1783) (e_fk := show G1779 16 = fk2_1783 from (e1792))    ) (fun o V' hq => ?_)
                      obtain ⟨r1819, rfl, rfl, b1820, q1821⟩ := hq
                      refine .inr ⟨_, rfl, ?_⟩
                      rcases q1821 with ⟨rfl, a1822⟩ | ⟨rfl, a1823⟩
                      · have _q : True := trivial
                        exfalso
                        omega
                      · have _q : True := trivial
                        refine jx_if_eq (pc' := 106) (tg := 108) rfl rfl rfl (by decide) (by decide) (fun h1824 => ?_) (fun h1824 => ?_)
                        · have _q := h1824
                          have z1825 := tz_f (tk2_1786)
                          exact at_108 L1818 G1779 A1780 (nd) (G 12) (r1673) (r1781) (1) (at2_1782) (tk2_1786) (fk2_1783) (nd2_1785) (op2_1784) gL1818_0 gL1818_1 gL1818_3 gL1818_4 gL1818_5 gL1818_6 hW1787 hF1803 hP1804 ((e1791)) ((e1795)) ((e1792)) ((e1794)) ((e1793)) (((hF1788.1 9 rfl).trans ((hF1706.1 9 rfl).trans ((hF1676.1 9 rfl).trans ((hF1616.1 9 rfl).trans (e_ln)))))) (by omega) (by omega) (by omega) (by omega) (by omega) (by omega) (by omega) (by omega) (by omega) (by omega) (by omega) (by omega) (by omega) (by omega) (by omega)
                        · have _q := h1824
                          exact absurd h1824 (by omega)
                  · have _q := h1778
                    refine jx_ld (pc' := 86) (l' := L1723) (st' := [.ref 66]) rfl (jl_aloadn gL1723_0) ?_
                    refine jx_ar (pc' := 87) (st' := [.int (i32 (4)), .ref 66]) rfl rfl rfl rfl ?_
                    refine jx_ld (pc' := 88) (l' := L1723) (st' := [.int (i32 (G 12)), .int (i32 (4)), .ref 66]) rfl (jl_iloadn gL1723_3) ?_
                    refine jx_vr (pc' := 91) (as := [.int (i32 (4)), .int (i32 (G 12))]) (st := []) rfl rfl rfl rfl ⟨rfl, rfl, Nat.le_of_ble_eq_true rfl⟩ rfl rfl (c_fail (dd := d) (hd := by omega) (hW := hW1705) (kind := 4) (place := G 12) (fk := fk2_1674) (e_fk := show G1701 16 = fk2_1674 from ((hF1706.1 16 rfl).trans (e1678)))  (h_kind := ⟨(by decide), (by decide)⟩) (h_place := ⟨(Int.le_trans (by decide : (-2147483648 : Int) ≤ -3000) b1669.1), (Int.le_trans b1669.2 (by decide : (3002 : Int) ≤ 2147483647))⟩)  (p_0 := by omega) (p_1 := by omega)) (fun o V' hq => ?_)
                    obtain ⟨G1826, A1827, fk2_1828, rfl, rfl, hW1829, hF1830, e1831, p1832, -⟩ := hq
                    have hF1834 := Fr_tr hF1713 hF1830 (Fr_sub (by decide)) (Fr_sub (by decide))
                    have hP1835 := Pf_f hP1714 hF1830 (by decide)
                    have bfk2_1828 : (0 : Int) ≤ fk2_1828 ∧ fk2_1828 ≤ 6 := e1831 ▸ hW1829.1 16
                    refine .inl ⟨rfl, ?_⟩
                    refine jx_ar (pc' := 92) (st' := [.int (i32 (0))]) rfl rfl rfl rfl ?_
                    refine jx_rt (v := some (.int (i32 (0)))) rfl rfl rfl rfl rfl rfl ?_
                    exact ⟨_, _, _, at2_1703, fk2_1828, nd2_1614, ln, rfl, rfl, hW1829, hF1834, hP1835, by omega, ((hF1830.1 10 rfl).trans (e1707)), (e1831), ((hF1830.1 31 rfl).trans ((hF1706.1 31 rfl).trans ((hF1676.1 31 rfl).trans (e1618)))), ((hF1830.1 9 rfl).trans ((hF1706.1 9 rfl).trans ((hF1676.1 9 rfl).trans ((hF1616.1 9 rfl).trans (e_ln))))), by omega, by omega, by omega, by omega, by omega, by first | exact Or.inl (⟨by omega, by omega, by omega⟩) | exact Or.inr ((⟨by omega, by omega, by omega, by omega, by omega⟩))⟩
          · have _q : True := trivial
            refine jx_ld (pc' := 56) (l' := jSto1 L1715 6 (.int (i32 (0)))) (st' := []) rfl rfl ?_
            obtain ⟨L1836, eL1836⟩ : ∃ q, q = jSto1 L1715 6 (.int (i32 (0))) := ⟨_, rfl⟩
            rw [← eL1836]
            have gL1836_0 : jGet L1836 0 = some (.ref 66) := eL1836 ▸ jg_ne (by decide) gL1715_0 rfl
            have gL1836_1 : jGet L1836 1 = some (.int (i32 (nd))) := eL1836 ▸ jg_ne (by decide) gL1715_1 rfl
            have gL1836_2 : jGet L1836 2 = some (.int (i32 (0))) := eL1836 ▸ jg_ne (by decide) gL1715_2 rfl
            have gL1836_3 : jGet L1836 3 = some (.int (i32 (G 12))) := eL1836 ▸ jg_ne (by decide) gL1715_3 rfl
            have gL1836_4 : jGet L1836 4 = some (.int (i32 (r1673))) := eL1836 ▸ jg_ne (by decide) gL1715_4 rfl
            have gL1836_5 : jGet L1836 5 = some (.int (i32 (0))) := eL1836 ▸ jg_ne (by decide) gL1715_5 rfl
            have gL1836_6 : jGet L1836 6 = some (.int (i32 (0))) := eL1836 ▸ jg_eq
            refine jx_ld (pc' := 58) (l' := L1836) (st' := [.int (i32 (0))]) rfl (jl_iload gL1836_6) ?_
            refine jx_if_eq (pc' := 61) (tg := 99) rfl rfl rfl (by decide) (by decide) (fun h1837 => ?_) (fun h1837 => ?_)
            · have _q := h1837
              refine jx_ld (pc' := 100) (l' := L1836) (st' := [.ref 66]) rfl (jl_aloadn gL1836_0) ?_
              refine jx_vr (pc' := 103) (as := []) (st := []) rfl rfl rfl rfl ⟨rfl, rfl, Nat.le_of_ble_eq_true rfl⟩ rfl rfl (c_bad (dd := d) (hd := by omega) (hW := hW1705)  (fk := fk2_1674) (e_fk := show G1701 16 = fk2_1674 from ((hF1706.1 16 rfl).trans (e1678)))    ) (fun o V' hq => ?_)
              obtain ⟨r1838, rfl, rfl, b1839, q1840⟩ := hq
              refine .inr ⟨_, rfl, ?_⟩
              rcases q1840 with ⟨rfl, a1841⟩ | ⟨rfl, a1842⟩
              · have _q : True := trivial
                exfalso
                omega
              · have _q : True := trivial
                refine jx_if_eq (pc' := 106) (tg := 108) rfl rfl rfl (by decide) (by decide) (fun h1843 => ?_) (fun h1843 => ?_)
                · have _q := h1843
                  have z1844 := tz_f (tk2_1704)
                  exact at_108 L1836 G1701 A1702 (nd) (G 12) (r1673) (0) (0) (at2_1703) (tk2_1704) (fk2_1674) (nd2_1614) (op0) gL1836_0 gL1836_1 gL1836_3 gL1836_4 gL1836_5 gL1836_6 hW1705 hF1713 hP1714 ((e1707)) ((e1708)) (((hF1706.1 16 rfl).trans (e1678))) (((hF1706.1 31 rfl).trans ((hF1676.1 31 rfl).trans (e1618)))) (((hF1706.1 15 rfl).trans ((hF1676.1 15 rfl).trans ((hF1616.1 15 rfl).trans (e_op0))))) (((hF1706.1 9 rfl).trans ((hF1676.1 9 rfl).trans ((hF1616.1 9 rfl).trans (e_ln))))) (by omega) (by omega) (by omega) (by omega) (by omega) (by omega) (by omega) (by omega) (by omega) (by omega) (by omega) (by omega) (by omega) (by omega) (by omega)
                · have _q := h1843
                  exact absurd h1843 (by omega)
            · have _q := h1837
              exact absurd h1837 (by omega)
        · have _q := h1700
          exact absurd h1700 (by omega)
