set_option maxRecDepth 20000 in
set_option maxHeartbeats 4000000 in
theorem c_readNamed {X : jX} {dd : Nat} {c0 c1 : jC} {G : Nat → Int} {A : Nat → Nat → Int} {T : jH} {ln le at0 fk op0 nd tk0 li : Int} (hd : 72 ≤ dd) (hW : Wk G A) (e_ln : G 9 = ln) (e_le : A 4 (ln).toNat = le) (e_at0 : G 10 = at0) (e_fk : G 16 = fk) (e_op0 : G 15 = op0) (e_nd : G 31 = nd) (e_tk0 : G 11 = tk0) (e_li : G 3 = li) (p_0 : 0 ≤ op0 ∧ op0 ≤ 8) (p_1 : fk = 0) (p_2 : nd ≤ 2 * at0 - tz tk0 + 42) (p_3 : at0 ≤ le) (p_4 : ln < li) (p_5 : tk0 = 1) : wk X dd 304 [.ref 66] (rV c0 c1 G A T) (fun o V' => ∃ (G' : Nat → Int) (A' : Nat → Nat → Int) (r : Int) (at2 : Int) (fk2 : Int) (nd2 : Int) (ln2 : Int), V' = rV c0 c1 G' A' T ∧ o = .inl (some (.int (i32 r))) ∧ Wk G' A' ∧ Fr [9, 10, 11, 12, 13, 14, 15, 16, 17, 18, 31] [15, 16, 17, 18, 19, 20, 21, 22, 24, 28] G A G' A' ∧ Pf nd A A' ∧ ((-2147483648 : Int) ≤ r ∧ r ≤ 2147483647) ∧ G' 10 = at2 ∧ G' 16 = fk2 ∧ G' 31 = nd2 ∧ G' 9 = ln2 ∧ (at0 ≤ at2) ∧ (at2 ≤ le) ∧ (nd ≤ nd2) ∧ (0 ≤ r) ∧ (r ≤ nd2) ∧ (((1 ≤ fk2) ∧ (ln2 = ln) ∧ (nd2 - nd ≤ 2 * at2 - 2 * at0 + 8)) ∨ ((fk2 = 0) ∧ (ln2 = ln + 1) ∧ (nd2 - nd ≤ 2 * at2 - (2 * at0 - tz tk0) + 0) ∧ (nd ≤ r) ∧ (r < nd2)))) := by
  obtain ⟨d, rfl⟩ : ∃ d, dd = d + 1 := ⟨dd - 1, by omega⟩
  refine wk_of (e := jm304) rfl (Nat.le_of_ble_eq_true rfl) ?_
  show wj X d jm304 (0, [(0, .ref 66)], [], rV c0 c1 G A T) _
  have hF0 : Fr [9, 10, 11, 12, 13, 14, 15, 16, 17, 18, 31] [15, 16, 17, 18, 19, 20, 21, 22, 24, 28] G A G A := Fr_rf
  have hP0 : Pf nd A A := Pf_rf
  have b_ln : (0 : Int) ≤ ln ∧ ln ≤ 3000 := e_ln ▸ hW.1 9
  have b_le : (0 : Int) ≤ le ∧ le ≤ 3000 := e_le ▸ hW.2 4 _
  have b_at0 : (0 : Int) ≤ at0 ∧ at0 ≤ 3002 := e_at0 ▸ hW.1 10
  have b_fk : (0 : Int) ≤ fk ∧ fk ≤ 6 := e_fk ▸ hW.1 16
  have b_op0 : (-2147483648 : Int) ≤ op0 ∧ op0 ≤ 2147483647 := e_op0 ▸ hW.1 15
  have b_nd : (0 : Int) ≤ nd ∧ nd ≤ 6999 := e_nd ▸ hW.1 31
  have z_tk0 := tz_f tk0
  have b_tk0 : (0 : Int) ≤ tk0 ∧ tk0 ≤ 5 := e_tk0 ▸ hW.1 11
  have b_li : (0 : Int) ≤ li ∧ li ≤ 3000 := e_li ▸ hW.1 3
  have at_307 : ∀ (L : jL) (Gx : Nat → Int) (Ax : Nat → Nat → Int) (out n at1 tk1 fk1 nd1 op1 : Int), jGet L 0 = some (.ref 66) → jGet L 6 = some (.int (i32 out)) → jGet L 7 = some (.int (i32 n)) → Wk Gx Ax → Fr [9, 10, 11, 12, 13, 14, 15, 16, 17, 18, 31] [15, 16, 17, 18, 19, 20, 21, 22, 24, 28] G A Gx Ax → Pf nd A Ax → Gx 10 = at1 → Gx 11 = tk1 → Gx 16 = fk1 → Gx 31 = nd1 → Gx 15 = op1 → Gx 9 = ln → ((-2147483648 : Int) ≤ out ∧ out ≤ 2147483647) → ((-2147483648 : Int) ≤ n ∧ n ≤ 2147483647) → (at0 ≤ at1) → (at1 ≤ le) → (nd ≤ nd1) → (op1 = op0) → (fk1 = 0) → (nd1 - nd ≤ (2 * at1 - tz tk1) - (2 * at0 - tz tk0) + 1) → (tz tk1 = 1) → (0 ≤ out ∧ out ≤ 1) → (nd ≤ n ∧ n ≤ 6998 ∧ n < nd1) → wj X d jm304 (307, L, [], rV c0 c1 Gx Ax T) (fun o V' => ∃ (G' : Nat → Int) (A' : Nat → Nat → Int) (r : Int) (at2 : Int) (fk2 : Int) (nd2 : Int) (ln2 : Int), V' = rV c0 c1 G' A' T ∧ o = .inl (some (.int (i32 r))) ∧ Wk G' A' ∧ Fr [9, 10, 11, 12, 13, 14, 15, 16, 17, 18, 31] [15, 16, 17, 18, 19, 20, 21, 22, 24, 28] G A G' A' ∧ Pf nd A A' ∧ ((-2147483648 : Int) ≤ r ∧ r ≤ 2147483647) ∧ G' 10 = at2 ∧ G' 16 = fk2 ∧ G' 31 = nd2 ∧ G' 9 = ln2 ∧ (at0 ≤ at2) ∧ (at2 ≤ le) ∧ (nd ≤ nd2) ∧ (0 ≤ r) ∧ (r ≤ nd2) ∧ (((1 ≤ fk2) ∧ (ln2 = ln) ∧ (nd2 - nd ≤ 2 * at2 - 2 * at0 + 8)) ∨ ((fk2 = 0) ∧ (ln2 = ln + 1) ∧ (nd2 - nd ≤ 2 * at2 - (2 * at0 - tz tk0) + 0) ∧ (nd ≤ r) ∧ (r < nd2)))) := by
    intro L Gx Ax out n at1 tk1 fk1 nd1 op1 gL_0 gL_6 gL_7 hWx hFx hPx ex_at1 ex_tk1 ex_fk1 ex_nd1 ex_op1 fx_9 rx_out rx_n iv_0 iv_1 iv_2 iv_3 iv_4 iv_5 iv_6 iv_7 iv_8
    have b_at1 : (0 : Int) ≤ at1 ∧ at1 ≤ 3002 := ex_at1 ▸ hWx.1 10
    have z_tk1 := tz_f tk1
    have b_tk1 : (0 : Int) ≤ tk1 ∧ tk1 ≤ 5 := ex_tk1 ▸ hWx.1 11
    have b_fk1 : (0 : Int) ≤ fk1 ∧ fk1 ≤ 6 := ex_fk1 ▸ hWx.1 16
    have b_nd1 : (0 : Int) ≤ nd1 ∧ nd1 ≤ 6999 := ex_nd1 ▸ hWx.1 31
    have b_op1 : (-2147483648 : Int) ≤ op1 ∧ op1 ≤ 2147483647 := ex_op1 ▸ hWx.1 15
    refine jx_ld (pc' := 308) (l' := L) (st' := [.ref 66]) rfl (jl_aloadn gL_0) ?_
    refine jx_vr (pc' := 311) (as := []) (st := []) rfl rfl rfl rfl ⟨rfl, rfl, Nat.le_of_ble_eq_true rfl⟩ rfl rfl (c_next (dd := d) (hd := by omega) (hW := hWx)  (ln := ln) (e_ln := show Gx 9 = ln from (fx_9)) (le := le) (e_le := show Ax 4 (ln).toNat = le from (congrFun (hFx.2 4 rfl) _).trans (e_le)) (at0 := at1) (e_at0 := show Gx 10 = at1 from (ex_at1))    (p_0 := by omega)) (fun o V' hq => ?_)
    obtain ⟨G1, A2, at2_3, tk2_4, rfl, rfl, hW5, hF6, e7, e8, p9, p10, p11, -⟩ := hq
    have hF13 := Fr_tr hFx hF6 (Fr_sub (by decide)) (Fr_sub (by decide))
    have hP14 := Pf_f hPx hF6 (by decide)
    have bat2_3 : (0 : Int) ≤ at2_3 ∧ at2_3 ≤ 3002 := e7 ▸ hW5.1 10
    have ztk2_4 := tz_b tk2_4
    have btk2_4 : (0 : Int) ≤ tk2_4 ∧ tk2_4 ≤ 5 := e8 ▸ hW5.1 11
    refine .inl ⟨rfl, ?_⟩
    refine jx_ld (pc' := 312) (l' := L) (st' := [.ref 66]) rfl (jl_aloadn gL_0) ?_
    refine jr_get (pc' := 315) (i := 35) (v := .ref 85) rfl rfl (by decide) rfl rfl ?_
    refine jx_ld (pc' := 317) (l' := L) (st' := [.int (i32 (n)), .ref 85]) rfl (jl_iload gL_7) ?_
    refine jx_ld (pc' := 319) (l' := L) (st' := [.int (i32 (out)), .int (i32 (n)), .ref 85]) rfl (jl_iload gL_6) ?_
    refine jx_if_eq (pc' := 322) (tg := 329) rfl rfl rfl (Int.le_trans (by decide : (-2147483648 : Int) ≤ -2147483648) rx_out.1) (Int.le_trans rx_out.2 (by decide : (2147483647 : Int) ≤ 2147483647)) (fun h15 => ?_) (fun h15 => ?_)
    · have _q := h15
      refine jx_ld (pc' := 330) (l' := L) (st' := [.ref 66, .int (i32 (n)), .ref 85]) rfl (jl_aloadn gL_0) ?_
      refine jx_ar (pc' := 331) (st' := [.int (i32 (0)), .ref 66, .int (i32 (n)), .ref 85]) rfl rfl rfl rfl ?_
      refine jx_vr (pc' := 334) (as := [.int (i32 (0))]) (st := [.int (i32 (n)), .ref 85]) rfl rfl rfl rfl ⟨rfl, rfl, Nat.le_of_ble_eq_true rfl⟩ rfl rfl (c_readReference (dd := d) (hd := by omega) (hW := hW5) (ch := 0) (ln := ln) (e_ln := show G1 9 = ln from ((hF6.1 9 rfl).trans (fx_9))) (le := le) (e_le := show A2 4 (ln).toNat = le from (congrFun ((hF6.2 4 rfl).trans (hFx.2 4 rfl)) _).trans (e_le)) (at0 := at2_3) (e_at0 := show G1 10 = at2_3 from (e7)) (fk := fk1) (e_fk := show G1 16 = fk1 from ((hF6.1 16 rfl).trans (ex_fk1))) (op0 := op1) (e_op0 := show G1 15 = op1 from ((hF6.1 15 rfl).trans (ex_op1))) (nd := nd1) (e_nd := show G1 31 = nd1 from ((hF6.1 31 rfl).trans (ex_nd1))) (tk0 := tk2_4) (e_tk0 := show G1 11 = tk2_4 from (e8))  (h_ch := ⟨(by decide), (by decide)⟩)  (p_0 := by omega) (p_1 := by omega) (p_2 := by omega) (p_3 := by omega) (p_4 := by omega)) (fun o V' hq => ?_)
      obtain ⟨G16, A17, r18, at2_19, fk2_20, op2_21, nd2_22, tk2_23, rfl, rfl, hW24, hF25, hQ26, b27, e28, e29, e30, e31, e32, p33, p34, p35, p36, p37, p38, q39⟩ := hq
      have hF40 := Fr_tr hF13 hF25 (Fr_sub (by decide)) (Fr_sub (by decide))
      have hP41 := Pf_tr hP14 hQ26 (by omega)
      have bat2_19 : (0 : Int) ≤ at2_19 ∧ at2_19 ≤ 3002 := e28 ▸ hW24.1 10
      have bfk2_20 : (0 : Int) ≤ fk2_20 ∧ fk2_20 ≤ 6 := e29 ▸ hW24.1 16
      have bop2_21 : (-2147483648 : Int) ≤ op2_21 ∧ op2_21 ≤ 2147483647 := e30 ▸ hW24.1 15
      have bnd2_22 : (0 : Int) ≤ nd2_22 ∧ nd2_22 ≤ 6999 := e31 ▸ hW24.1 31
      have ztk2_23 := tz_b tk2_23
      have btk2_23 : (0 : Int) ≤ tk2_23 ∧ tk2_23 ≤ 5 := e32 ▸ hW24.1 11
      refine .inr ⟨_, rfl, ?_⟩
      rcases q39 with ⟨a42, a43, a44, a45, a46, a47⟩ | ⟨a48, a49, a50⟩ | ⟨a51, a52, a53⟩
      · have _q : True := trivial
        exfalso
        omega
      · have _q : True := trivial
        refine jr_st (pc' := 335) (i := 18) (m := 7000) (z := n) (y := r18) rfl (by decide) rfl (by decide) (by omega) (by omega) rfl ?_
        have hW55 : Wk G16 (uA A17 18 (n).toNat (r18)) := Wk_a hW24 (show (-2147483648 : Int) ≤ r18 by omega) (show r18 ≤ (2147483647 : Int) by omega)
        have hF56 := Fr_a (z := r18) (k := 18) (n := (n).toNat) hF40 (by decide)
        obtain ⟨A54, eA54⟩ : ∃ q, q = uA A17 18 (n).toNat (r18) := ⟨_, rfl⟩
        rw [← eA54]
        rw [← eA54] at hW55 hF56
        have q57 : A54 18 (n).toNat = r18 := by rw [eA54]; exact uA_eq
        have hP58 : Pf nd A A54 := eA54 ▸ Pf_a hP41 (z := n) (by omega) (by omega)
        refine jx_ld (pc' := 336) (l' := L) (st' := [.ref 66]) rfl (jl_aloadn gL_0) ?_
        refine jx_vr (pc' := 339) (as := []) (st := []) rfl rfl rfl rfl ⟨rfl, rfl, Nat.le_of_ble_eq_true rfl⟩ rfl rfl (c_endLine (dd := d) (hd := by omega) (hW := hW55)  (ln := ln) (e_ln := show G16 9 = ln from ((hF25.1 9 rfl).trans ((hF6.1 9 rfl).trans (fx_9)))) (li := li) (e_li := show G16 3 = li from ((hF25.1 3 rfl).trans ((hF6.1 3 rfl).trans ((hFx.1 3 rfl).trans (e_li))))) (fk := fk2_20) (e_fk := show G16 16 = fk2_20 from (e29)) (tk0 := tk2_23) (e_tk0 := show G16 11 = tk2_23 from (e32))    (p_0 := by omega)) (fun o V' hq => ?_)
        obtain ⟨G59, A60, ln2_61, fk2_62, rfl, rfl, hW63, hF64, e65, e66, q67⟩ := hq
        have hF68 := Fr_tr hF56 hF64 (Fr_sub (by decide)) (Fr_sub (by decide))
        have hP69 := Pf_f hP58 hF64 (by decide)
        have bln2_61 : (0 : Int) ≤ ln2_61 ∧ ln2_61 ≤ 3000 := e65 ▸ hW63.1 9
        have bfk2_62 : (0 : Int) ≤ fk2_62 ∧ fk2_62 ≤ 6 := e66 ▸ hW63.1 16
        refine .inl ⟨rfl, ?_⟩
        rcases q67 with ⟨a70, a71, a72, a73, a74⟩ | ⟨a75, a76⟩
        · have _q : True := trivial
          exfalso
          omega
        · have _q : True := trivial
          refine jx_ld (pc' := 341) (l' := L) (st' := [.int (i32 (n))]) rfl (jl_iload gL_7) ?_
          refine jx_rt (v := some (.int (i32 (n)))) rfl rfl rfl rfl rfl rfl ?_
          exact ⟨_, _, _, at2_19, fk2_62, nd2_22, ln2_61, rfl, rfl, hW63, hF68, hP69, by omega, ((hF64.1 10 rfl).trans (e28)), (e66), ((hF64.1 31 rfl).trans (e31)), (e65), by omega, by omega, by omega, by omega, by omega, by first | exact Or.inl (⟨by omega, by omega, by omega⟩) | exact Or.inr ((⟨by omega, by omega, by omega, by omega, by omega⟩))⟩
      · have _q : True := trivial
        refine jr_st (pc' := 335) (i := 18) (m := 7000) (z := n) (y := r18) rfl (by decide) rfl (by decide) (by omega) (by omega) rfl ?_
        have hW78 : Wk G16 (uA A17 18 (n).toNat (r18)) := Wk_a hW24 (show (-2147483648 : Int) ≤ r18 by omega) (show r18 ≤ (2147483647 : Int) by omega)
        have hF79 := Fr_a (z := r18) (k := 18) (n := (n).toNat) hF40 (by decide)
        obtain ⟨A77, eA77⟩ : ∃ q, q = uA A17 18 (n).toNat (r18) := ⟨_, rfl⟩
        rw [← eA77]
        rw [← eA77] at hW78 hF79
        have q80 : A77 18 (n).toNat = r18 := by rw [eA77]; exact uA_eq
        have hP81 : Pf nd A A77 := eA77 ▸ Pf_a hP41 (z := n) (by omega) (by omega)
        refine jx_ld (pc' := 336) (l' := L) (st' := [.ref 66]) rfl (jl_aloadn gL_0) ?_
        refine jx_vr (pc' := 339) (as := []) (st := []) rfl rfl rfl rfl ⟨rfl, rfl, Nat.le_of_ble_eq_true rfl⟩ rfl rfl (c_endLine (dd := d) (hd := by omega) (hW := hW78)  (ln := ln) (e_ln := show G16 9 = ln from ((hF25.1 9 rfl).trans ((hF6.1 9 rfl).trans (fx_9)))) (li := li) (e_li := show G16 3 = li from ((hF25.1 3 rfl).trans ((hF6.1 3 rfl).trans ((hFx.1 3 rfl).trans (e_li))))) (fk := fk2_20) (e_fk := show G16 16 = fk2_20 from (e29)) (tk0 := tk2_23) (e_tk0 := show G16 11 = tk2_23 from (e32))    (p_0 := by omega)) (fun o V' hq => ?_)
        obtain ⟨G82, A83, ln2_84, fk2_85, rfl, rfl, hW86, hF87, e88, e89, q90⟩ := hq
        have hF91 := Fr_tr hF79 hF87 (Fr_sub (by decide)) (Fr_sub (by decide))
        have hP92 := Pf_f hP81 hF87 (by decide)
        have bln2_84 : (0 : Int) ≤ ln2_84 ∧ ln2_84 ≤ 3000 := e88 ▸ hW86.1 9
        have bfk2_85 : (0 : Int) ≤ fk2_85 ∧ fk2_85 ≤ 6 := e89 ▸ hW86.1 16
        refine .inl ⟨rfl, ?_⟩
        rcases q90 with ⟨a93, a94, a95, a96, a97⟩ | ⟨a98, a99⟩
        · have _q : True := trivial
          refine jx_ld (pc' := 341) (l' := L) (st' := [.int (i32 (n))]) rfl (jl_iload gL_7) ?_
          refine jx_rt (v := some (.int (i32 (n)))) rfl rfl rfl rfl rfl rfl ?_
          exact ⟨_, _, _, at2_19, fk2_85, nd2_22, ln2_84, rfl, rfl, hW86, hF91, hP92, by omega, ((hF87.1 10 rfl).trans (e28)), (e89), ((hF87.1 31 rfl).trans (e31)), (e88), by omega, by omega, by omega, by omega, by omega, by first | exact Or.inl (⟨by omega, by omega, by omega⟩) | exact Or.inr ((⟨by omega, by omega, by omega, by omega, by omega⟩))⟩
        · have _q : True := trivial
          refine jx_ld (pc' := 341) (l' := L) (st' := [.int (i32 (n))]) rfl (jl_iload gL_7) ?_
          refine jx_rt (v := some (.int (i32 (n)))) rfl rfl rfl rfl rfl rfl ?_
          exact ⟨_, _, _, at2_19, fk2_85, nd2_22, ln2_84, rfl, rfl, hW86, hF91, hP92, by omega, ((hF87.1 10 rfl).trans (e28)), (e89), ((hF87.1 31 rfl).trans (e31)), (e88), by omega, by omega, by omega, by omega, by omega, by first | exact Or.inl (⟨by omega, by omega, by omega⟩) | exact Or.inr ((⟨by omega, by omega, by omega, by omega, by omega⟩))⟩
    · have _q := h15
      refine jx_ld (pc' := 323) (l' := L) (st' := [.ref 66, .int (i32 (n)), .ref 85]) rfl (jl_aloadn gL_0) ?_
      refine jx_vr (pc' := 326) (as := []) (st := [.int (i32 (n)), .ref 85]) rfl rfl rfl rfl ⟨rfl, rfl, Nat.le_of_ble_eq_true rfl⟩ rfl rfl (RE_all X 9 (dd := d) (hd := by omega) (hW := hW5)  (ln := ln) (e_ln := show G1 9 = ln from ((hF6.1 9 rfl).trans (fx_9))) (le := le) (e_le := show A2 4 (ln).toNat = le from (congrFun ((hF6.2 4 rfl).trans (hFx.2 4 rfl)) _).trans (e_le)) (at0 := at2_3) (e_at0 := show G1 10 = at2_3 from (e7)) (fk := fk1) (e_fk := show G1 16 = fk1 from ((hF6.1 16 rfl).trans (ex_fk1))) (op0 := op1) (e_op0 := show G1 15 = op1 from ((hF6.1 15 rfl).trans (ex_op1))) (nd := nd1) (e_nd := show G1 31 = nd1 from ((hF6.1 31 rfl).trans (ex_nd1))) (tk0 := tk2_4) (e_tk0 := show G1 11 = tk2_4 from (e8))    (p_0 := by omega) (p_1 := by omega) (p_2 := by omega) (p_3 := by omega) (p_4 := by omega) (p_5 := by omega)) (fun o V' hq => ?_)
      obtain ⟨G100, A101, r102, at2_103, fk2_104, op2_105, nd2_106, tk2_107, rfl, rfl, hW108, hF109, hQ110, b111, e112, e113, e114, e115, e116, p117, p118, p119, p120, p121, p122, q123⟩ := hq
      have hF124 := Fr_tr hF13 hF109 (Fr_sub (by decide)) (Fr_sub (by decide))
      have hP125 := Pf_tr hP14 hQ110 (by omega)
      have bat2_103 : (0 : Int) ≤ at2_103 ∧ at2_103 ≤ 3002 := e112 ▸ hW108.1 10
      have bfk2_104 : (0 : Int) ≤ fk2_104 ∧ fk2_104 ≤ 6 := e113 ▸ hW108.1 16
      have bop2_105 : (-2147483648 : Int) ≤ op2_105 ∧ op2_105 ≤ 2147483647 := e114 ▸ hW108.1 15
      have bnd2_106 : (0 : Int) ≤ nd2_106 ∧ nd2_106 ≤ 6999 := e115 ▸ hW108.1 31
      have ztk2_107 := tz_b tk2_107
      have btk2_107 : (0 : Int) ≤ tk2_107 ∧ tk2_107 ≤ 5 := e116 ▸ hW108.1 11
      refine .inr ⟨_, rfl, ?_⟩
      rcases q123 with ⟨a126, a127, a128, a129, a130, a131⟩ | ⟨a132, a133, a134⟩ | ⟨a135, a136, a137⟩
      · have _q : True := trivial
        exfalso
        omega
      · have _q : True := trivial
        refine jx_go (tg := 334) rfl rfl ?_
        refine jr_st (pc' := 335) (i := 18) (m := 7000) (z := n) (y := r102) rfl (by decide) rfl (by decide) (by omega) (by omega) rfl ?_
        have hW139 : Wk G100 (uA A101 18 (n).toNat (r102)) := Wk_a hW108 (show (-2147483648 : Int) ≤ r102 by omega) (show r102 ≤ (2147483647 : Int) by omega)
        have hF140 := Fr_a (z := r102) (k := 18) (n := (n).toNat) hF124 (by decide)
        obtain ⟨A138, eA138⟩ : ∃ q, q = uA A101 18 (n).toNat (r102) := ⟨_, rfl⟩
        rw [← eA138]
        rw [← eA138] at hW139 hF140
        have q141 : A138 18 (n).toNat = r102 := by rw [eA138]; exact uA_eq
        have hP142 : Pf nd A A138 := eA138 ▸ Pf_a hP125 (z := n) (by omega) (by omega)
        refine jx_ld (pc' := 336) (l' := L) (st' := [.ref 66]) rfl (jl_aloadn gL_0) ?_
        refine jx_vr (pc' := 339) (as := []) (st := []) rfl rfl rfl rfl ⟨rfl, rfl, Nat.le_of_ble_eq_true rfl⟩ rfl rfl (c_endLine (dd := d) (hd := by omega) (hW := hW139)  (ln := ln) (e_ln := show G100 9 = ln from ((hF109.1 9 rfl).trans ((hF6.1 9 rfl).trans (fx_9)))) (li := li) (e_li := show G100 3 = li from ((hF109.1 3 rfl).trans ((hF6.1 3 rfl).trans ((hFx.1 3 rfl).trans (e_li))))) (fk := fk2_104) (e_fk := show G100 16 = fk2_104 from (e113)) (tk0 := tk2_107) (e_tk0 := show G100 11 = tk2_107 from (e116))    (p_0 := by omega)) (fun o V' hq => ?_)
        obtain ⟨G143, A144, ln2_145, fk2_146, rfl, rfl, hW147, hF148, e149, e150, q151⟩ := hq
        have hF152 := Fr_tr hF140 hF148 (Fr_sub (by decide)) (Fr_sub (by decide))
        have hP153 := Pf_f hP142 hF148 (by decide)
        have bln2_145 : (0 : Int) ≤ ln2_145 ∧ ln2_145 ≤ 3000 := e149 ▸ hW147.1 9
        have bfk2_146 : (0 : Int) ≤ fk2_146 ∧ fk2_146 ≤ 6 := e150 ▸ hW147.1 16
        refine .inl ⟨rfl, ?_⟩
        rcases q151 with ⟨a154, a155, a156, a157, a158⟩ | ⟨a159, a160⟩
        · have _q : True := trivial
          exfalso
          omega
        · have _q : True := trivial
          refine jx_ld (pc' := 341) (l' := L) (st' := [.int (i32 (n))]) rfl (jl_iload gL_7) ?_
          refine jx_rt (v := some (.int (i32 (n)))) rfl rfl rfl rfl rfl rfl ?_
          exact ⟨_, _, _, at2_103, fk2_146, nd2_106, ln2_145, rfl, rfl, hW147, hF152, hP153, by omega, ((hF148.1 10 rfl).trans (e112)), (e150), ((hF148.1 31 rfl).trans (e115)), (e149), by omega, by omega, by omega, by omega, by omega, by first | exact Or.inl (⟨by omega, by omega, by omega⟩) | exact Or.inr ((⟨by omega, by omega, by omega, by omega, by omega⟩))⟩
      · have _q : True := trivial
        refine jx_go (tg := 334) rfl rfl ?_
        refine jr_st (pc' := 335) (i := 18) (m := 7000) (z := n) (y := r102) rfl (by decide) rfl (by decide) (by omega) (by omega) rfl ?_
        have hW162 : Wk G100 (uA A101 18 (n).toNat (r102)) := Wk_a hW108 (show (-2147483648 : Int) ≤ r102 by omega) (show r102 ≤ (2147483647 : Int) by omega)
        have hF163 := Fr_a (z := r102) (k := 18) (n := (n).toNat) hF124 (by decide)
        obtain ⟨A161, eA161⟩ : ∃ q, q = uA A101 18 (n).toNat (r102) := ⟨_, rfl⟩
        rw [← eA161]
        rw [← eA161] at hW162 hF163
        have q164 : A161 18 (n).toNat = r102 := by rw [eA161]; exact uA_eq
        have hP165 : Pf nd A A161 := eA161 ▸ Pf_a hP125 (z := n) (by omega) (by omega)
        refine jx_ld (pc' := 336) (l' := L) (st' := [.ref 66]) rfl (jl_aloadn gL_0) ?_
        refine jx_vr (pc' := 339) (as := []) (st := []) rfl rfl rfl rfl ⟨rfl, rfl, Nat.le_of_ble_eq_true rfl⟩ rfl rfl (c_endLine (dd := d) (hd := by omega) (hW := hW162)  (ln := ln) (e_ln := show G100 9 = ln from ((hF109.1 9 rfl).trans ((hF6.1 9 rfl).trans (fx_9)))) (li := li) (e_li := show G100 3 = li from ((hF109.1 3 rfl).trans ((hF6.1 3 rfl).trans ((hFx.1 3 rfl).trans (e_li))))) (fk := fk2_104) (e_fk := show G100 16 = fk2_104 from (e113)) (tk0 := tk2_107) (e_tk0 := show G100 11 = tk2_107 from (e116))    (p_0 := by omega)) (fun o V' hq => ?_)
        obtain ⟨G166, A167, ln2_168, fk2_169, rfl, rfl, hW170, hF171, e172, e173, q174⟩ := hq
        have hF175 := Fr_tr hF163 hF171 (Fr_sub (by decide)) (Fr_sub (by decide))
        have hP176 := Pf_f hP165 hF171 (by decide)
        have bln2_168 : (0 : Int) ≤ ln2_168 ∧ ln2_168 ≤ 3000 := e172 ▸ hW170.1 9
        have bfk2_169 : (0 : Int) ≤ fk2_169 ∧ fk2_169 ≤ 6 := e173 ▸ hW170.1 16
        refine .inl ⟨rfl, ?_⟩
        rcases q174 with ⟨a177, a178, a179, a180, a181⟩ | ⟨a182, a183⟩
        · have _q : True := trivial
          refine jx_ld (pc' := 341) (l' := L) (st' := [.int (i32 (n))]) rfl (jl_iload gL_7) ?_
          refine jx_rt (v := some (.int (i32 (n)))) rfl rfl rfl rfl rfl rfl ?_
          exact ⟨_, _, _, at2_103, fk2_169, nd2_106, ln2_168, rfl, rfl, hW170, hF175, hP176, by omega, ((hF171.1 10 rfl).trans (e112)), (e173), ((hF171.1 31 rfl).trans (e115)), (e172), by omega, by omega, by omega, by omega, by omega, by first | exact Or.inl (⟨by omega, by omega, by omega⟩) | exact Or.inr ((⟨by omega, by omega, by omega, by omega, by omega⟩))⟩
        · have _q : True := trivial
          refine jx_ld (pc' := 341) (l' := L) (st' := [.int (i32 (n))]) rfl (jl_iload gL_7) ?_
          refine jx_rt (v := some (.int (i32 (n)))) rfl rfl rfl rfl rfl rfl ?_
          exact ⟨_, _, _, at2_103, fk2_169, nd2_106, ln2_168, rfl, rfl, hW170, hF175, hP176, by omega, ((hF171.1 10 rfl).trans (e112)), (e173), ((hF171.1 31 rfl).trans (e115)), (e172), by omega, by omega, by omega, by omega, by omega, by first | exact Or.inl (⟨by omega, by omega, by omega⟩) | exact Or.inr ((⟨by omega, by omega, by omega, by omega, by omega⟩))⟩
  have at_259 : ∀ (L : jL) (Gx : Nat → Int) (Ax : Nat → Nat → Int) (s ix row at1 tk1 fk1 nd1 op1 : Int), jGet L 0 = some (.ref 66) → jGet L 2 = some (.int (i32 s)) → jGet L 4 = some (.int (i32 ix)) → jGet L 5 = some (.int (i32 row)) → Wk Gx Ax → Fr [9, 10, 11, 12, 13, 14, 15, 16, 17, 18, 31] [15, 16, 17, 18, 19, 20, 21, 22, 24, 28] G A Gx Ax → Pf nd A Ax → Gx 10 = at1 → Gx 11 = tk1 → Gx 16 = fk1 → Gx 31 = nd1 → Gx 15 = op1 → Gx 9 = ln → ((-2147483648 : Int) ≤ s ∧ s ≤ 2147483647) → ((-2147483648 : Int) ≤ ix ∧ ix ≤ 2147483647) → ((-2147483648 : Int) ≤ row ∧ row ≤ 2147483647) → (at0 ≤ at1) → (at1 ≤ le) → (nd ≤ nd1) → (op1 = op0) → (fk1 = 0) → (nd1 - nd ≤ (2 * at1 - tz tk1) - (2 * at0 - tz tk0) - 1) → (tz tk1 = 1) → (0 ≤ row ∧ row ≤ 1) → wj X d jm304 (259, L, [], rV c0 c1 Gx Ax T) (fun o V' => ∃ (G' : Nat → Int) (A' : Nat → Nat → Int) (r : Int) (at2 : Int) (fk2 : Int) (nd2 : Int) (ln2 : Int), V' = rV c0 c1 G' A' T ∧ o = .inl (some (.int (i32 r))) ∧ Wk G' A' ∧ Fr [9, 10, 11, 12, 13, 14, 15, 16, 17, 18, 31] [15, 16, 17, 18, 19, 20, 21, 22, 24, 28] G A G' A' ∧ Pf nd A A' ∧ ((-2147483648 : Int) ≤ r ∧ r ≤ 2147483647) ∧ G' 10 = at2 ∧ G' 16 = fk2 ∧ G' 31 = nd2 ∧ G' 9 = ln2 ∧ (at0 ≤ at2) ∧ (at2 ≤ le) ∧ (nd ≤ nd2) ∧ (0 ≤ r) ∧ (r ≤ nd2) ∧ (((1 ≤ fk2) ∧ (ln2 = ln) ∧ (nd2 - nd ≤ 2 * at2 - 2 * at0 + 8)) ∨ ((fk2 = 0) ∧ (ln2 = ln + 1) ∧ (nd2 - nd ≤ 2 * at2 - (2 * at0 - tz tk0) + 0) ∧ (nd ≤ r) ∧ (r < nd2)))) := by
    intro L Gx Ax s ix row at1 tk1 fk1 nd1 op1 gL_0 gL_2 gL_4 gL_5 hWx hFx hPx ex_at1 ex_tk1 ex_fk1 ex_nd1 ex_op1 fx_9 rx_s rx_ix rx_row iv_0 iv_1 iv_2 iv_3 iv_4 iv_5 iv_6 iv_7
    have b_at1 : (0 : Int) ≤ at1 ∧ at1 ≤ 3002 := ex_at1 ▸ hWx.1 10
    have z_tk1 := tz_f tk1
    have b_tk1 : (0 : Int) ≤ tk1 ∧ tk1 ≤ 5 := ex_tk1 ▸ hWx.1 11
    have b_fk1 : (0 : Int) ≤ fk1 ∧ fk1 ≤ 6 := ex_fk1 ▸ hWx.1 16
    have b_nd1 : (0 : Int) ≤ nd1 ∧ nd1 ≤ 6999 := ex_nd1 ▸ hWx.1 31
    have b_op1 : (-2147483648 : Int) ≤ op1 ∧ op1 ≤ 2147483647 := ex_op1 ▸ hWx.1 15
    refine jx_ld (pc' := 260) (l' := L) (st' := [.ref 66]) rfl (jl_aloadn gL_0) ?_
    refine jx_ar (pc' := 262) (st' := [.int (i32 (33)), .ref 66]) rfl rfl rfl rfl ?_
    have b184 : (-2147483648 : Int) ≤ Gx 13 ∧ Gx 13 ≤ 2147483647 := hWx.1 13
    refine jx_vr (pc' := 265) (as := [.int (i32 (33))]) (st := []) rfl rfl rfl rfl ⟨rfl, rfl, Nat.le_of_ble_eq_true rfl⟩ rfl rfl (c_is (dd := d) (hd := by omega) (hW := hWx) (k := 33) (tk := tk1) (e_tk := show Gx 11 = tk1 from (ex_tk1)) (tn := Gx 13) (e_tn := show Gx 13 = Gx 13 from rfl)  (h_k := ⟨(by decide), (by decide)⟩)  ) (fun o V' hq => ?_)
    obtain ⟨r185, rfl, rfl, b186, q187⟩ := hq
    refine .inr ⟨_, rfl, ?_⟩
    rcases q187 with ⟨rfl, a188, a189, a190⟩ | rfl
    · have _q : True := trivial
      refine jx_ld (pc' := 267) (l' := jSto1 L 6 (.int (i32 (1)))) (st' := []) rfl rfl ?_
      obtain ⟨L191, eL191⟩ : ∃ q, q = jSto1 L 6 (.int (i32 (1))) := ⟨_, rfl⟩
      rw [← eL191]
      have gL191_0 : jGet L191 0 = some (.ref 66) := eL191 ▸ jg_ne (by decide) gL_0 rfl
      have gL191_2 : jGet L191 2 = some (.int (i32 (s))) := eL191 ▸ jg_ne (by decide) gL_2 rfl
      have gL191_4 : jGet L191 4 = some (.int (i32 (ix))) := eL191 ▸ jg_ne (by decide) gL_4 rfl
      have gL191_5 : jGet L191 5 = some (.int (i32 (row))) := eL191 ▸ jg_ne (by decide) gL_5 rfl
      have gL191_6 : jGet L191 6 = some (.int (i32 (1))) := eL191 ▸ jg_eq
      refine jx_ld (pc' := 268) (l' := L191) (st' := [.ref 66]) rfl (jl_aloadn gL191_0) ?_
      refine jx_ld (pc' := 270) (l' := L191) (st' := [.int (i32 (1)), .ref 66]) rfl (jl_iload gL191_6) ?_
      refine jx_if_eq (pc' := 273) (tg := 278) rfl rfl rfl (by decide) (by decide) (fun h192 => ?_) (fun h192 => ?_)
      · have _q := h192
        exact absurd h192 (by omega)
      · have _q := h192
        refine jx_ar (pc' := 275) (st' := [.int (i32 (23)), .ref 66]) rfl rfl rfl rfl ?_
        refine jx_go (tg := 280) rfl rfl ?_
        refine jx_ld (pc' := 281) (l' := L191) (st' := [.ref 66, .int (i32 (23)), .ref 66]) rfl (jl_aloadn gL191_0) ?_
        refine jx_ld (pc' := 283) (l' := L191) (st' := [.int (i32 (row)), .ref 66, .int (i32 (23)), .ref 66]) rfl (jl_iload gL191_5) ?_
        refine jx_if_eq (pc' := 286) (tg := 290) rfl rfl rfl (Int.le_trans (by decide : (-2147483648 : Int) ≤ -2147483648) rx_row.1) (Int.le_trans rx_row.2 (by decide : (2147483647 : Int) ≤ 2147483647)) (fun h193 => ?_) (fun h193 => ?_)
        · have _q := h193
          refine jx_ar (pc' := 291) (st' := [.int (i32 (2)), .ref 66, .int (i32 (23)), .ref 66]) rfl rfl rfl rfl ?_
          refine jx_ld (pc' := 292) (l' := L191) (st' := [.int (i32 (s)), .int (i32 (2)), .ref 66, .int (i32 (23)), .ref 66]) rfl (jl_iloadn gL191_2) ?_
          refine jx_ld (pc' := 294) (l' := L191) (st' := [.int (i32 (ix)), .int (i32 (s)), .int (i32 (2)), .ref 66, .int (i32 (23)), .ref 66]) rfl (jl_iload gL191_4) ?_
          refine jx_ar (pc' := 295) (st' := [.int (i32 (0)), .int (i32 (ix)), .int (i32 (s)), .int (i32 (2)), .ref 66, .int (i32 (23)), .ref 66]) rfl rfl rfl rfl ?_
          refine jx_ar (pc' := 296) (st' := [.int (i32 (0)), .int (i32 (0)), .int (i32 (ix)), .int (i32 (s)), .int (i32 (2)), .ref 66, .int (i32 (23)), .ref 66]) rfl rfl rfl rfl ?_
          refine jx_vr (pc' := 299) (as := [.int (i32 (2)), .int (i32 (s)), .int (i32 (ix)), .int (i32 (0)), .int (i32 (0))]) (st := [.int (i32 (23)), .ref 66]) rfl rfl rfl rfl ⟨rfl, rfl, Nat.le_of_ble_eq_true rfl⟩ rfl rfl (c_node (dd := d) (hd := by omega) (hW := hWx) (kind := 2) (a := s) (b := ix) (c := 0) (e := 0) (nd := nd1) (e_nd := show Gx 31 = nd1 from (ex_nd1))  (h_kind := ⟨(by decide), (by decide)⟩) (h_a := ⟨(Int.le_trans (by decide : (-2147483648 : Int) ≤ -2147483648) rx_s.1), (Int.le_trans rx_s.2 (by decide : (2147483647 : Int) ≤ 2147483647))⟩) (h_b := ⟨(Int.le_trans (by decide : (-2147483648 : Int) ≤ -2147483648) rx_ix.1), (Int.le_trans rx_ix.2 (by decide : (2147483647 : Int) ≤ 2147483647))⟩) (h_c := ⟨(by decide), (by decide)⟩) (h_e := ⟨(by decide), (by decide)⟩)  (p_0 := by omega) (p_1 := by omega)) (fun o V' hq => ?_)
          obtain ⟨G194, A195, nd2_196, rfl, rfl, hW197, hF198, hQ199, e200, p201, -⟩ := hq
          have hF203 := Fr_tr hFx hF198 (Fr_sub (by decide)) (Fr_sub (by decide))
          have hP204 := Pf_tr hPx hQ199 (by omega)
          have bnd2_196 : (0 : Int) ≤ nd2_196 ∧ nd2_196 ≤ 6999 := e200 ▸ hW197.1 31
          refine .inr ⟨_, rfl, ?_⟩
          refine jx_ar (pc' := 300) (st' := [.int (i32 (0)), .int (i32 (nd1)), .int (i32 (23)), .ref 66]) rfl rfl rfl rfl ?_
          refine jx_ar (pc' := 301) (st' := [.int (i32 (0)), .int (i32 (0)), .int (i32 (nd1)), .int (i32 (23)), .ref 66]) rfl rfl rfl rfl ?_
          refine jx_ar (pc' := 302) (st' := [.int (i32 (0)), .int (i32 (0)), .int (i32 (0)), .int (i32 (nd1)), .int (i32 (23)), .ref 66]) rfl rfl rfl rfl ?_
          refine jx_vr (pc' := 305) (as := [.int (i32 (23)), .int (i32 (nd1)), .int (i32 (0)), .int (i32 (0)), .int (i32 (0))]) (st := []) rfl rfl rfl rfl ⟨rfl, rfl, Nat.le_of_ble_eq_true rfl⟩ rfl rfl (c_node (dd := d) (hd := by omega) (hW := hW197) (kind := 23) (a := nd1) (b := 0) (c := 0) (e := 0) (nd := nd2_196) (e_nd := show G194 31 = nd2_196 from (e200))  (h_kind := ⟨(by decide), (by decide)⟩) (h_a := ⟨(Int.le_trans (by decide : (-2147483648 : Int) ≤ 0) b_nd1.1), (Int.le_trans b_nd1.2 (by decide : (6999 : Int) ≤ 2147483647))⟩) (h_b := ⟨(by decide), (by decide)⟩) (h_c := ⟨(by decide), (by decide)⟩) (h_e := ⟨(by decide), (by decide)⟩)  (p_0 := by omega) (p_1 := by omega)) (fun o V' hq => ?_)
          obtain ⟨G205, A206, nd2_207, rfl, rfl, hW208, hF209, hQ210, e211, p212, -⟩ := hq
          have hF214 := Fr_tr hF203 hF209 (Fr_sub (by decide)) (Fr_sub (by decide))
          have hP215 := Pf_tr hP204 hQ210 (by omega)
          have bnd2_207 : (0 : Int) ≤ nd2_207 ∧ nd2_207 ≤ 6999 := e211 ▸ hW208.1 31
          refine .inr ⟨_, rfl, ?_⟩
          refine jx_ld (pc' := 307) (l' := jSto1 L191 7 (.int (i32 (nd2_196)))) (st' := []) rfl rfl ?_
          obtain ⟨L216, eL216⟩ : ∃ q, q = jSto1 L191 7 (.int (i32 (nd2_196))) := ⟨_, rfl⟩
          rw [← eL216]
          have gL216_0 : jGet L216 0 = some (.ref 66) := eL216 ▸ jg_ne (by decide) gL191_0 rfl
          have gL216_2 : jGet L216 2 = some (.int (i32 (s))) := eL216 ▸ jg_ne (by decide) gL191_2 rfl
          have gL216_4 : jGet L216 4 = some (.int (i32 (ix))) := eL216 ▸ jg_ne (by decide) gL191_4 rfl
          have gL216_5 : jGet L216 5 = some (.int (i32 (row))) := eL216 ▸ jg_ne (by decide) gL191_5 rfl
          have gL216_6 : jGet L216 6 = some (.int (i32 (1))) := eL216 ▸ jg_ne (by decide) gL191_6 rfl
          have gL216_7 : jGet L216 7 = some (.int (i32 (nd2_196))) := eL216 ▸ jg_eq
          have z217 := tz_f (tk1)
          exact at_307 L216 G205 A206 (1) (nd2_196) (at1) (tk1) (fk1) (nd2_207) (op1) gL216_0 gL216_6 gL216_7 hW208 hF214 hP215 (((hF209.1 10 rfl).trans ((hF198.1 10 rfl).trans (ex_at1)))) (((hF209.1 11 rfl).trans ((hF198.1 11 rfl).trans (ex_tk1)))) (((hF209.1 16 rfl).trans ((hF198.1 16 rfl).trans (ex_fk1)))) ((e211)) (((hF209.1 15 rfl).trans ((hF198.1 15 rfl).trans (ex_op1)))) (((hF209.1 9 rfl).trans ((hF198.1 9 rfl).trans (fx_9)))) (by omega) (by omega) (by omega) (by omega) (by omega) (by omega) (by omega) (by omega) (by omega) (by omega) (by omega)
        · have _q := h193
          refine jx_ar (pc' := 287) (st' := [.int (i32 (3)), .ref 66, .int (i32 (23)), .ref 66]) rfl rfl rfl rfl ?_
          refine jx_go (tg := 291) rfl rfl ?_
          refine jx_ld (pc' := 292) (l' := L191) (st' := [.int (i32 (s)), .int (i32 (3)), .ref 66, .int (i32 (23)), .ref 66]) rfl (jl_iloadn gL191_2) ?_
          refine jx_ld (pc' := 294) (l' := L191) (st' := [.int (i32 (ix)), .int (i32 (s)), .int (i32 (3)), .ref 66, .int (i32 (23)), .ref 66]) rfl (jl_iload gL191_4) ?_
          refine jx_ar (pc' := 295) (st' := [.int (i32 (0)), .int (i32 (ix)), .int (i32 (s)), .int (i32 (3)), .ref 66, .int (i32 (23)), .ref 66]) rfl rfl rfl rfl ?_
          refine jx_ar (pc' := 296) (st' := [.int (i32 (0)), .int (i32 (0)), .int (i32 (ix)), .int (i32 (s)), .int (i32 (3)), .ref 66, .int (i32 (23)), .ref 66]) rfl rfl rfl rfl ?_
          refine jx_vr (pc' := 299) (as := [.int (i32 (3)), .int (i32 (s)), .int (i32 (ix)), .int (i32 (0)), .int (i32 (0))]) (st := [.int (i32 (23)), .ref 66]) rfl rfl rfl rfl ⟨rfl, rfl, Nat.le_of_ble_eq_true rfl⟩ rfl rfl (c_node (dd := d) (hd := by omega) (hW := hWx) (kind := 3) (a := s) (b := ix) (c := 0) (e := 0) (nd := nd1) (e_nd := show Gx 31 = nd1 from (ex_nd1))  (h_kind := ⟨(by decide), (by decide)⟩) (h_a := ⟨(Int.le_trans (by decide : (-2147483648 : Int) ≤ -2147483648) rx_s.1), (Int.le_trans rx_s.2 (by decide : (2147483647 : Int) ≤ 2147483647))⟩) (h_b := ⟨(Int.le_trans (by decide : (-2147483648 : Int) ≤ -2147483648) rx_ix.1), (Int.le_trans rx_ix.2 (by decide : (2147483647 : Int) ≤ 2147483647))⟩) (h_c := ⟨(by decide), (by decide)⟩) (h_e := ⟨(by decide), (by decide)⟩)  (p_0 := by omega) (p_1 := by omega)) (fun o V' hq => ?_)
          obtain ⟨G218, A219, nd2_220, rfl, rfl, hW221, hF222, hQ223, e224, p225, -⟩ := hq
          have hF227 := Fr_tr hFx hF222 (Fr_sub (by decide)) (Fr_sub (by decide))
          have hP228 := Pf_tr hPx hQ223 (by omega)
          have bnd2_220 : (0 : Int) ≤ nd2_220 ∧ nd2_220 ≤ 6999 := e224 ▸ hW221.1 31
          refine .inr ⟨_, rfl, ?_⟩
          refine jx_ar (pc' := 300) (st' := [.int (i32 (0)), .int (i32 (nd1)), .int (i32 (23)), .ref 66]) rfl rfl rfl rfl ?_
          refine jx_ar (pc' := 301) (st' := [.int (i32 (0)), .int (i32 (0)), .int (i32 (nd1)), .int (i32 (23)), .ref 66]) rfl rfl rfl rfl ?_
          refine jx_ar (pc' := 302) (st' := [.int (i32 (0)), .int (i32 (0)), .int (i32 (0)), .int (i32 (nd1)), .int (i32 (23)), .ref 66]) rfl rfl rfl rfl ?_
          refine jx_vr (pc' := 305) (as := [.int (i32 (23)), .int (i32 (nd1)), .int (i32 (0)), .int (i32 (0)), .int (i32 (0))]) (st := []) rfl rfl rfl rfl ⟨rfl, rfl, Nat.le_of_ble_eq_true rfl⟩ rfl rfl (c_node (dd := d) (hd := by omega) (hW := hW221) (kind := 23) (a := nd1) (b := 0) (c := 0) (e := 0) (nd := nd2_220) (e_nd := show G218 31 = nd2_220 from (e224))  (h_kind := ⟨(by decide), (by decide)⟩) (h_a := ⟨(Int.le_trans (by decide : (-2147483648 : Int) ≤ 0) b_nd1.1), (Int.le_trans b_nd1.2 (by decide : (6999 : Int) ≤ 2147483647))⟩) (h_b := ⟨(by decide), (by decide)⟩) (h_c := ⟨(by decide), (by decide)⟩) (h_e := ⟨(by decide), (by decide)⟩)  (p_0 := by omega) (p_1 := by omega)) (fun o V' hq => ?_)
          obtain ⟨G229, A230, nd2_231, rfl, rfl, hW232, hF233, hQ234, e235, p236, -⟩ := hq
          have hF238 := Fr_tr hF227 hF233 (Fr_sub (by decide)) (Fr_sub (by decide))
          have hP239 := Pf_tr hP228 hQ234 (by omega)
          have bnd2_231 : (0 : Int) ≤ nd2_231 ∧ nd2_231 ≤ 6999 := e235 ▸ hW232.1 31
          refine .inr ⟨_, rfl, ?_⟩
          refine jx_ld (pc' := 307) (l' := jSto1 L191 7 (.int (i32 (nd2_220)))) (st' := []) rfl rfl ?_
          obtain ⟨L240, eL240⟩ : ∃ q, q = jSto1 L191 7 (.int (i32 (nd2_220))) := ⟨_, rfl⟩
          rw [← eL240]
          have gL240_0 : jGet L240 0 = some (.ref 66) := eL240 ▸ jg_ne (by decide) gL191_0 rfl
          have gL240_2 : jGet L240 2 = some (.int (i32 (s))) := eL240 ▸ jg_ne (by decide) gL191_2 rfl
          have gL240_4 : jGet L240 4 = some (.int (i32 (ix))) := eL240 ▸ jg_ne (by decide) gL191_4 rfl
          have gL240_5 : jGet L240 5 = some (.int (i32 (row))) := eL240 ▸ jg_ne (by decide) gL191_5 rfl
          have gL240_6 : jGet L240 6 = some (.int (i32 (1))) := eL240 ▸ jg_ne (by decide) gL191_6 rfl
          have gL240_7 : jGet L240 7 = some (.int (i32 (nd2_220))) := eL240 ▸ jg_eq
          have z241 := tz_f (tk1)
          exact at_307 L240 G229 A230 (1) (nd2_220) (at1) (tk1) (fk1) (nd2_231) (op1) gL240_0 gL240_6 gL240_7 hW232 hF238 hP239 (((hF233.1 10 rfl).trans ((hF222.1 10 rfl).trans (ex_at1)))) (((hF233.1 11 rfl).trans ((hF222.1 11 rfl).trans (ex_tk1)))) (((hF233.1 16 rfl).trans ((hF222.1 16 rfl).trans (ex_fk1)))) ((e235)) (((hF233.1 15 rfl).trans ((hF222.1 15 rfl).trans (ex_op1)))) (((hF233.1 9 rfl).trans ((hF222.1 9 rfl).trans (fx_9)))) (by omega) (by omega) (by omega) (by omega) (by omega) (by omega) (by omega) (by omega) (by omega) (by omega) (by omega)
    · have _q : True := trivial
      refine jx_ld (pc' := 267) (l' := jSto1 L 6 (.int (i32 (0)))) (st' := []) rfl rfl ?_
      obtain ⟨L242, eL242⟩ : ∃ q, q = jSto1 L 6 (.int (i32 (0))) := ⟨_, rfl⟩
      rw [← eL242]
      have gL242_0 : jGet L242 0 = some (.ref 66) := eL242 ▸ jg_ne (by decide) gL_0 rfl
      have gL242_2 : jGet L242 2 = some (.int (i32 (s))) := eL242 ▸ jg_ne (by decide) gL_2 rfl
      have gL242_4 : jGet L242 4 = some (.int (i32 (ix))) := eL242 ▸ jg_ne (by decide) gL_4 rfl
      have gL242_5 : jGet L242 5 = some (.int (i32 (row))) := eL242 ▸ jg_ne (by decide) gL_5 rfl
      have gL242_6 : jGet L242 6 = some (.int (i32 (0))) := eL242 ▸ jg_eq
      refine jx_ld (pc' := 268) (l' := L242) (st' := [.ref 66]) rfl (jl_aloadn gL242_0) ?_
      refine jx_ld (pc' := 270) (l' := L242) (st' := [.int (i32 (0)), .ref 66]) rfl (jl_iload gL242_6) ?_
      refine jx_if_eq (pc' := 273) (tg := 278) rfl rfl rfl (by decide) (by decide) (fun h243 => ?_) (fun h243 => ?_)
      · have _q := h243
        refine jx_ar (pc' := 280) (st' := [.int (i32 (24)), .ref 66]) rfl rfl rfl rfl ?_
        refine jx_ld (pc' := 281) (l' := L242) (st' := [.ref 66, .int (i32 (24)), .ref 66]) rfl (jl_aloadn gL242_0) ?_
        refine jx_ld (pc' := 283) (l' := L242) (st' := [.int (i32 (row)), .ref 66, .int (i32 (24)), .ref 66]) rfl (jl_iload gL242_5) ?_
        refine jx_if_eq (pc' := 286) (tg := 290) rfl rfl rfl (Int.le_trans (by decide : (-2147483648 : Int) ≤ -2147483648) rx_row.1) (Int.le_trans rx_row.2 (by decide : (2147483647 : Int) ≤ 2147483647)) (fun h244 => ?_) (fun h244 => ?_)
        · have _q := h244
          refine jx_ar (pc' := 291) (st' := [.int (i32 (2)), .ref 66, .int (i32 (24)), .ref 66]) rfl rfl rfl rfl ?_
          refine jx_ld (pc' := 292) (l' := L242) (st' := [.int (i32 (s)), .int (i32 (2)), .ref 66, .int (i32 (24)), .ref 66]) rfl (jl_iloadn gL242_2) ?_
          refine jx_ld (pc' := 294) (l' := L242) (st' := [.int (i32 (ix)), .int (i32 (s)), .int (i32 (2)), .ref 66, .int (i32 (24)), .ref 66]) rfl (jl_iload gL242_4) ?_
          refine jx_ar (pc' := 295) (st' := [.int (i32 (0)), .int (i32 (ix)), .int (i32 (s)), .int (i32 (2)), .ref 66, .int (i32 (24)), .ref 66]) rfl rfl rfl rfl ?_
          refine jx_ar (pc' := 296) (st' := [.int (i32 (0)), .int (i32 (0)), .int (i32 (ix)), .int (i32 (s)), .int (i32 (2)), .ref 66, .int (i32 (24)), .ref 66]) rfl rfl rfl rfl ?_
          refine jx_vr (pc' := 299) (as := [.int (i32 (2)), .int (i32 (s)), .int (i32 (ix)), .int (i32 (0)), .int (i32 (0))]) (st := [.int (i32 (24)), .ref 66]) rfl rfl rfl rfl ⟨rfl, rfl, Nat.le_of_ble_eq_true rfl⟩ rfl rfl (c_node (dd := d) (hd := by omega) (hW := hWx) (kind := 2) (a := s) (b := ix) (c := 0) (e := 0) (nd := nd1) (e_nd := show Gx 31 = nd1 from (ex_nd1))  (h_kind := ⟨(by decide), (by decide)⟩) (h_a := ⟨(Int.le_trans (by decide : (-2147483648 : Int) ≤ -2147483648) rx_s.1), (Int.le_trans rx_s.2 (by decide : (2147483647 : Int) ≤ 2147483647))⟩) (h_b := ⟨(Int.le_trans (by decide : (-2147483648 : Int) ≤ -2147483648) rx_ix.1), (Int.le_trans rx_ix.2 (by decide : (2147483647 : Int) ≤ 2147483647))⟩) (h_c := ⟨(by decide), (by decide)⟩) (h_e := ⟨(by decide), (by decide)⟩)  (p_0 := by omega) (p_1 := by omega)) (fun o V' hq => ?_)
          obtain ⟨G245, A246, nd2_247, rfl, rfl, hW248, hF249, hQ250, e251, p252, -⟩ := hq
          have hF254 := Fr_tr hFx hF249 (Fr_sub (by decide)) (Fr_sub (by decide))
          have hP255 := Pf_tr hPx hQ250 (by omega)
          have bnd2_247 : (0 : Int) ≤ nd2_247 ∧ nd2_247 ≤ 6999 := e251 ▸ hW248.1 31
          refine .inr ⟨_, rfl, ?_⟩
          refine jx_ar (pc' := 300) (st' := [.int (i32 (0)), .int (i32 (nd1)), .int (i32 (24)), .ref 66]) rfl rfl rfl rfl ?_
          refine jx_ar (pc' := 301) (st' := [.int (i32 (0)), .int (i32 (0)), .int (i32 (nd1)), .int (i32 (24)), .ref 66]) rfl rfl rfl rfl ?_
          refine jx_ar (pc' := 302) (st' := [.int (i32 (0)), .int (i32 (0)), .int (i32 (0)), .int (i32 (nd1)), .int (i32 (24)), .ref 66]) rfl rfl rfl rfl ?_
          refine jx_vr (pc' := 305) (as := [.int (i32 (24)), .int (i32 (nd1)), .int (i32 (0)), .int (i32 (0)), .int (i32 (0))]) (st := []) rfl rfl rfl rfl ⟨rfl, rfl, Nat.le_of_ble_eq_true rfl⟩ rfl rfl (c_node (dd := d) (hd := by omega) (hW := hW248) (kind := 24) (a := nd1) (b := 0) (c := 0) (e := 0) (nd := nd2_247) (e_nd := show G245 31 = nd2_247 from (e251))  (h_kind := ⟨(by decide), (by decide)⟩) (h_a := ⟨(Int.le_trans (by decide : (-2147483648 : Int) ≤ 0) b_nd1.1), (Int.le_trans b_nd1.2 (by decide : (6999 : Int) ≤ 2147483647))⟩) (h_b := ⟨(by decide), (by decide)⟩) (h_c := ⟨(by decide), (by decide)⟩) (h_e := ⟨(by decide), (by decide)⟩)  (p_0 := by omega) (p_1 := by omega)) (fun o V' hq => ?_)
          obtain ⟨G256, A257, nd2_258, rfl, rfl, hW259, hF260, hQ261, e262, p263, -⟩ := hq
          have hF265 := Fr_tr hF254 hF260 (Fr_sub (by decide)) (Fr_sub (by decide))
          have hP266 := Pf_tr hP255 hQ261 (by omega)
          have bnd2_258 : (0 : Int) ≤ nd2_258 ∧ nd2_258 ≤ 6999 := e262 ▸ hW259.1 31
          refine .inr ⟨_, rfl, ?_⟩
          refine jx_ld (pc' := 307) (l' := jSto1 L242 7 (.int (i32 (nd2_247)))) (st' := []) rfl rfl ?_
          obtain ⟨L267, eL267⟩ : ∃ q, q = jSto1 L242 7 (.int (i32 (nd2_247))) := ⟨_, rfl⟩
          rw [← eL267]
          have gL267_0 : jGet L267 0 = some (.ref 66) := eL267 ▸ jg_ne (by decide) gL242_0 rfl
          have gL267_2 : jGet L267 2 = some (.int (i32 (s))) := eL267 ▸ jg_ne (by decide) gL242_2 rfl
          have gL267_4 : jGet L267 4 = some (.int (i32 (ix))) := eL267 ▸ jg_ne (by decide) gL242_4 rfl
          have gL267_5 : jGet L267 5 = some (.int (i32 (row))) := eL267 ▸ jg_ne (by decide) gL242_5 rfl
          have gL267_6 : jGet L267 6 = some (.int (i32 (0))) := eL267 ▸ jg_ne (by decide) gL242_6 rfl
          have gL267_7 : jGet L267 7 = some (.int (i32 (nd2_247))) := eL267 ▸ jg_eq
          have z268 := tz_f (tk1)
          exact at_307 L267 G256 A257 (0) (nd2_247) (at1) (tk1) (fk1) (nd2_258) (op1) gL267_0 gL267_6 gL267_7 hW259 hF265 hP266 (((hF260.1 10 rfl).trans ((hF249.1 10 rfl).trans (ex_at1)))) (((hF260.1 11 rfl).trans ((hF249.1 11 rfl).trans (ex_tk1)))) (((hF260.1 16 rfl).trans ((hF249.1 16 rfl).trans (ex_fk1)))) ((e262)) (((hF260.1 15 rfl).trans ((hF249.1 15 rfl).trans (ex_op1)))) (((hF260.1 9 rfl).trans ((hF249.1 9 rfl).trans (fx_9)))) (by omega) (by omega) (by omega) (by omega) (by omega) (by omega) (by omega) (by omega) (by omega) (by omega) (by omega)
        · have _q := h244
          refine jx_ar (pc' := 287) (st' := [.int (i32 (3)), .ref 66, .int (i32 (24)), .ref 66]) rfl rfl rfl rfl ?_
          refine jx_go (tg := 291) rfl rfl ?_
          refine jx_ld (pc' := 292) (l' := L242) (st' := [.int (i32 (s)), .int (i32 (3)), .ref 66, .int (i32 (24)), .ref 66]) rfl (jl_iloadn gL242_2) ?_
          refine jx_ld (pc' := 294) (l' := L242) (st' := [.int (i32 (ix)), .int (i32 (s)), .int (i32 (3)), .ref 66, .int (i32 (24)), .ref 66]) rfl (jl_iload gL242_4) ?_
          refine jx_ar (pc' := 295) (st' := [.int (i32 (0)), .int (i32 (ix)), .int (i32 (s)), .int (i32 (3)), .ref 66, .int (i32 (24)), .ref 66]) rfl rfl rfl rfl ?_
          refine jx_ar (pc' := 296) (st' := [.int (i32 (0)), .int (i32 (0)), .int (i32 (ix)), .int (i32 (s)), .int (i32 (3)), .ref 66, .int (i32 (24)), .ref 66]) rfl rfl rfl rfl ?_
          refine jx_vr (pc' := 299) (as := [.int (i32 (3)), .int (i32 (s)), .int (i32 (ix)), .int (i32 (0)), .int (i32 (0))]) (st := [.int (i32 (24)), .ref 66]) rfl rfl rfl rfl ⟨rfl, rfl, Nat.le_of_ble_eq_true rfl⟩ rfl rfl (c_node (dd := d) (hd := by omega) (hW := hWx) (kind := 3) (a := s) (b := ix) (c := 0) (e := 0) (nd := nd1) (e_nd := show Gx 31 = nd1 from (ex_nd1))  (h_kind := ⟨(by decide), (by decide)⟩) (h_a := ⟨(Int.le_trans (by decide : (-2147483648 : Int) ≤ -2147483648) rx_s.1), (Int.le_trans rx_s.2 (by decide : (2147483647 : Int) ≤ 2147483647))⟩) (h_b := ⟨(Int.le_trans (by decide : (-2147483648 : Int) ≤ -2147483648) rx_ix.1), (Int.le_trans rx_ix.2 (by decide : (2147483647 : Int) ≤ 2147483647))⟩) (h_c := ⟨(by decide), (by decide)⟩) (h_e := ⟨(by decide), (by decide)⟩)  (p_0 := by omega) (p_1 := by omega)) (fun o V' hq => ?_)
          obtain ⟨G269, A270, nd2_271, rfl, rfl, hW272, hF273, hQ274, e275, p276, -⟩ := hq
          have hF278 := Fr_tr hFx hF273 (Fr_sub (by decide)) (Fr_sub (by decide))
          have hP279 := Pf_tr hPx hQ274 (by omega)
          have bnd2_271 : (0 : Int) ≤ nd2_271 ∧ nd2_271 ≤ 6999 := e275 ▸ hW272.1 31
          refine .inr ⟨_, rfl, ?_⟩
          refine jx_ar (pc' := 300) (st' := [.int (i32 (0)), .int (i32 (nd1)), .int (i32 (24)), .ref 66]) rfl rfl rfl rfl ?_
          refine jx_ar (pc' := 301) (st' := [.int (i32 (0)), .int (i32 (0)), .int (i32 (nd1)), .int (i32 (24)), .ref 66]) rfl rfl rfl rfl ?_
          refine jx_ar (pc' := 302) (st' := [.int (i32 (0)), .int (i32 (0)), .int (i32 (0)), .int (i32 (nd1)), .int (i32 (24)), .ref 66]) rfl rfl rfl rfl ?_
          refine jx_vr (pc' := 305) (as := [.int (i32 (24)), .int (i32 (nd1)), .int (i32 (0)), .int (i32 (0)), .int (i32 (0))]) (st := []) rfl rfl rfl rfl ⟨rfl, rfl, Nat.le_of_ble_eq_true rfl⟩ rfl rfl (c_node (dd := d) (hd := by omega) (hW := hW272) (kind := 24) (a := nd1) (b := 0) (c := 0) (e := 0) (nd := nd2_271) (e_nd := show G269 31 = nd2_271 from (e275))  (h_kind := ⟨(by decide), (by decide)⟩) (h_a := ⟨(Int.le_trans (by decide : (-2147483648 : Int) ≤ 0) b_nd1.1), (Int.le_trans b_nd1.2 (by decide : (6999 : Int) ≤ 2147483647))⟩) (h_b := ⟨(by decide), (by decide)⟩) (h_c := ⟨(by decide), (by decide)⟩) (h_e := ⟨(by decide), (by decide)⟩)  (p_0 := by omega) (p_1 := by omega)) (fun o V' hq => ?_)
          obtain ⟨G280, A281, nd2_282, rfl, rfl, hW283, hF284, hQ285, e286, p287, -⟩ := hq
          have hF289 := Fr_tr hF278 hF284 (Fr_sub (by decide)) (Fr_sub (by decide))
          have hP290 := Pf_tr hP279 hQ285 (by omega)
          have bnd2_282 : (0 : Int) ≤ nd2_282 ∧ nd2_282 ≤ 6999 := e286 ▸ hW283.1 31
          refine .inr ⟨_, rfl, ?_⟩
          refine jx_ld (pc' := 307) (l' := jSto1 L242 7 (.int (i32 (nd2_271)))) (st' := []) rfl rfl ?_
          obtain ⟨L291, eL291⟩ : ∃ q, q = jSto1 L242 7 (.int (i32 (nd2_271))) := ⟨_, rfl⟩
          rw [← eL291]
          have gL291_0 : jGet L291 0 = some (.ref 66) := eL291 ▸ jg_ne (by decide) gL242_0 rfl
          have gL291_2 : jGet L291 2 = some (.int (i32 (s))) := eL291 ▸ jg_ne (by decide) gL242_2 rfl
          have gL291_4 : jGet L291 4 = some (.int (i32 (ix))) := eL291 ▸ jg_ne (by decide) gL242_4 rfl
          have gL291_5 : jGet L291 5 = some (.int (i32 (row))) := eL291 ▸ jg_ne (by decide) gL242_5 rfl
          have gL291_6 : jGet L291 6 = some (.int (i32 (0))) := eL291 ▸ jg_ne (by decide) gL242_6 rfl
          have gL291_7 : jGet L291 7 = some (.int (i32 (nd2_271))) := eL291 ▸ jg_eq
          have z292 := tz_f (tk1)
          exact at_307 L291 G280 A281 (0) (nd2_271) (at1) (tk1) (fk1) (nd2_282) (op1) gL291_0 gL291_6 gL291_7 hW283 hF289 hP290 (((hF284.1 10 rfl).trans ((hF273.1 10 rfl).trans (ex_at1)))) (((hF284.1 11 rfl).trans ((hF273.1 11 rfl).trans (ex_tk1)))) (((hF284.1 16 rfl).trans ((hF273.1 16 rfl).trans (ex_fk1)))) ((e286)) (((hF284.1 15 rfl).trans ((hF273.1 15 rfl).trans (ex_op1)))) (((hF284.1 9 rfl).trans ((hF273.1 9 rfl).trans (fx_9)))) (by omega) (by omega) (by omega) (by omega) (by omega) (by omega) (by omega) (by omega) (by omega) (by omega) (by omega)
      · have _q := h243
        exact absurd h243 (by omega)
  have at_231 : ∀ (L : jL) (Gx : Nat → Int) (Ax : Nat → Nat → Int) (pl s kd ix row at1 tk1 fk1 nd1 op1 : Int), jGet L 0 = some (.ref 66) → jGet L 1 = some (.int (i32 pl)) → jGet L 2 = some (.int (i32 s)) → jGet L 3 = some (.int (i32 kd)) → jGet L 4 = some (.int (i32 ix)) → jGet L 5 = some (.int (i32 row)) → Wk Gx Ax → Fr [9, 10, 11, 12, 13, 14, 15, 16, 17, 18, 31] [15, 16, 17, 18, 19, 20, 21, 22, 24, 28] G A Gx Ax → Pf nd A Ax → Gx 10 = at1 → Gx 11 = tk1 → Gx 16 = fk1 → Gx 31 = nd1 → Gx 15 = op1 → Gx 9 = ln → ((-2147483648 : Int) ≤ pl ∧ pl ≤ 2147483647) → ((-2147483648 : Int) ≤ s ∧ s ≤ 2147483647) → ((-2147483648 : Int) ≤ kd ∧ kd ≤ 2147483647) → ((-2147483648 : Int) ≤ ix ∧ ix ≤ 2147483647) → ((-2147483648 : Int) ≤ row ∧ row ≤ 2147483647) → (at0 ≤ at1) → (at1 ≤ le) → (nd ≤ nd1) → (op1 = op0) → (fk1 = 0) → (nd1 - nd ≤ (2 * at1 - tz tk1) - (2 * at0 - tz tk0) - 1) → (tz tk1 = 1) → (-3000 ≤ pl ∧ pl ≤ 3002) → (0 ≤ row ∧ row ≤ 1) → wj X d jm304 (231, L, [], rV c0 c1 Gx Ax T) (fun o V' => ∃ (G' : Nat → Int) (A' : Nat → Nat → Int) (r : Int) (at2 : Int) (fk2 : Int) (nd2 : Int) (ln2 : Int), V' = rV c0 c1 G' A' T ∧ o = .inl (some (.int (i32 r))) ∧ Wk G' A' ∧ Fr [9, 10, 11, 12, 13, 14, 15, 16, 17, 18, 31] [15, 16, 17, 18, 19, 20, 21, 22, 24, 28] G A G' A' ∧ Pf nd A A' ∧ ((-2147483648 : Int) ≤ r ∧ r ≤ 2147483647) ∧ G' 10 = at2 ∧ G' 16 = fk2 ∧ G' 31 = nd2 ∧ G' 9 = ln2 ∧ (at0 ≤ at2) ∧ (at2 ≤ le) ∧ (nd ≤ nd2) ∧ (0 ≤ r) ∧ (r ≤ nd2) ∧ (((1 ≤ fk2) ∧ (ln2 = ln) ∧ (nd2 - nd ≤ 2 * at2 - 2 * at0 + 8)) ∨ ((fk2 = 0) ∧ (ln2 = ln + 1) ∧ (nd2 - nd ≤ 2 * at2 - (2 * at0 - tz tk0) + 0) ∧ (nd ≤ r) ∧ (r < nd2)))) := by
    intro L Gx Ax pl s kd ix row at1 tk1 fk1 nd1 op1 gL_0 gL_1 gL_2 gL_3 gL_4 gL_5 hWx hFx hPx ex_at1 ex_tk1 ex_fk1 ex_nd1 ex_op1 fx_9 rx_pl rx_s rx_kd rx_ix rx_row iv_0 iv_1 iv_2 iv_3 iv_4 iv_5 iv_6 iv_7 iv_8
    have b_at1 : (0 : Int) ≤ at1 ∧ at1 ≤ 3002 := ex_at1 ▸ hWx.1 10
    have z_tk1 := tz_f tk1
    have b_tk1 : (0 : Int) ≤ tk1 ∧ tk1 ≤ 5 := ex_tk1 ▸ hWx.1 11
    have b_fk1 : (0 : Int) ≤ fk1 ∧ fk1 ≤ 6 := ex_fk1 ▸ hWx.1 16
    have b_nd1 : (0 : Int) ≤ nd1 ∧ nd1 ≤ 6999 := ex_nd1 ▸ hWx.1 31
    have b_op1 : (-2147483648 : Int) ≤ op1 ∧ op1 ≤ 2147483647 := ex_op1 ▸ hWx.1 15
    refine jx_ld (pc' := 233) (l' := L) (st' := [.int (i32 (row))]) rfl (jl_iload gL_5) ?_
    refine jx_if_eq (pc' := 236) (tg := 244) rfl rfl rfl (Int.le_trans (by decide : (-2147483648 : Int) ≤ -2147483648) rx_row.1) (Int.le_trans rx_row.2 (by decide : (2147483647 : Int) ≤ 2147483647)) (fun h293 => ?_) (fun h293 => ?_)
    · have _q := h293
      refine jx_ld (pc' := 245) (l' := L) (st' := [.int (i32 (kd))]) rfl (jl_iloadn gL_3) ?_
      refine jx_st (pc' := 248) (as := [.int (i32 (kd))]) (st := []) rfl rfl ⟨rfl, Nat.le_of_ble_eq_true rfl⟩ rfl rfl rfl (c_isChannel (dd := d) (hd := by omega) (k := kd)   (h_k := ⟨(Int.le_trans (by decide : (-2147483648 : Int) ≤ -2147483648) rx_kd.1), (Int.le_trans rx_kd.2 (by decide : (2147483647 : Int) ≤ 2147483647))⟩)  ) (fun o V' hq => ?_)
      obtain ⟨r294, rfl, rfl, b295, q296⟩ := hq
      refine .inr ⟨_, rfl, ?_⟩
      rcases q296 with rfl | rfl
      · have _q : True := trivial
        refine jx_if_ne (pc' := 251) (tg := 259) rfl rfl rfl (by decide) (by decide) (fun h297 => ?_) (fun h297 => ?_)
        · have _q := h297
          have z298 := tz_f (tk1)
          exact at_259 L Gx Ax (s) (ix) (row) (at1) (tk1) (fk1) (nd1) (op1) gL_0 gL_2 gL_4 gL_5 hWx hFx hPx ((ex_at1)) ((ex_tk1)) ((ex_fk1)) ((ex_nd1)) ((ex_op1)) ((fx_9)) (by omega) (by omega) (by omega) (by omega) (by omega) (by omega) (by omega) (by omega) (by omega) (by omega) (by omega)
        · have _q := h297
          exact absurd h297 (by omega)
      · have _q : True := trivial
        refine jx_if_ne (pc' := 251) (tg := 259) rfl rfl rfl (by decide) (by decide) (fun h299 => ?_) (fun h299 => ?_)
        · have _q := h299
          exact absurd h299 (by omega)
        · have _q := h299
          refine jx_ld (pc' := 252) (l' := L) (st' := [.ref 66]) rfl (jl_aloadn gL_0) ?_
          refine jx_ar (pc' := 253) (st' := [.int (i32 (4)), .ref 66]) rfl rfl rfl rfl ?_
          refine jx_ld (pc' := 254) (l' := L) (st' := [.int (i32 (pl)), .int (i32 (4)), .ref 66]) rfl (jl_iloadn gL_1) ?_
          refine jx_vr (pc' := 257) (as := [.int (i32 (4)), .int (i32 (pl))]) (st := []) rfl rfl rfl rfl ⟨rfl, rfl, Nat.le_of_ble_eq_true rfl⟩ rfl rfl (c_fail (dd := d) (hd := by omega) (hW := hWx) (kind := 4) (place := pl) (fk := fk1) (e_fk := show Gx 16 = fk1 from (ex_fk1))  (h_kind := ⟨(by decide), (by decide)⟩) (h_place := ⟨(Int.le_trans (by decide : (-2147483648 : Int) ≤ -2147483648) rx_pl.1), (Int.le_trans rx_pl.2 (by decide : (2147483647 : Int) ≤ 2147483647))⟩)  (p_0 := by omega) (p_1 := by omega)) (fun o V' hq => ?_)
          obtain ⟨G300, A301, fk2_302, rfl, rfl, hW303, hF304, e305, p306, -⟩ := hq
          have hF308 := Fr_tr hFx hF304 (Fr_sub (by decide)) (Fr_sub (by decide))
          have hP309 := Pf_f hPx hF304 (by decide)
          have bfk2_302 : (0 : Int) ≤ fk2_302 ∧ fk2_302 ≤ 6 := e305 ▸ hW303.1 16
          refine .inl ⟨rfl, ?_⟩
          refine jx_ar (pc' := 258) (st' := [.int (i32 (0))]) rfl rfl rfl rfl ?_
          refine jx_rt (v := some (.int (i32 (0)))) rfl rfl rfl rfl rfl rfl ?_
          exact ⟨_, _, _, at1, fk2_302, nd1, ln, rfl, rfl, hW303, hF308, hP309, by omega, ((hF304.1 10 rfl).trans (ex_at1)), (e305), ((hF304.1 31 rfl).trans (ex_nd1)), ((hF304.1 9 rfl).trans (fx_9)), by omega, by omega, by omega, by omega, by omega, by first | exact Or.inl (⟨by omega, by omega, by omega⟩) | exact Or.inr ((⟨by omega, by omega, by omega, by omega, by omega⟩))⟩
    · have _q := h293
      refine jx_ld (pc' := 237) (l' := L) (st' := [.int (i32 (kd))]) rfl (jl_iloadn gL_3) ?_
      refine jx_ar (pc' := 238) (st' := [.int (i32 (4)), .int (i32 (kd))]) rfl rfl rfl rfl ?_
      refine jx_icmp_eq (pc' := 241) (tg := 259) rfl rfl rfl (Int.le_trans (by decide : (-2147483648 : Int) ≤ -2147483648) rx_kd.1) (Int.le_trans rx_kd.2 (by decide : (2147483647 : Int) ≤ 2147483647)) (by decide) (by decide) (fun h310 => ?_) (fun h310 => ?_)
      · have _q := h310
        have z311 := tz_f (tk1)
        exact at_259 L Gx Ax (s) (ix) (row) (at1) (tk1) (fk1) (nd1) (op1) gL_0 gL_2 gL_4 gL_5 hWx hFx hPx ((ex_at1)) ((ex_tk1)) ((ex_fk1)) ((ex_nd1)) ((ex_op1)) ((fx_9)) (by omega) (by omega) (by omega) (by omega) (by omega) (by omega) (by omega) (by omega) (by omega) (by omega) (by omega)
      · have _q := h310
        refine jx_go (tg := 251) rfl rfl ?_
        refine jx_ld (pc' := 252) (l' := L) (st' := [.ref 66]) rfl (jl_aloadn gL_0) ?_
        refine jx_ar (pc' := 253) (st' := [.int (i32 (4)), .ref 66]) rfl rfl rfl rfl ?_
        refine jx_ld (pc' := 254) (l' := L) (st' := [.int (i32 (pl)), .int (i32 (4)), .ref 66]) rfl (jl_iloadn gL_1) ?_
        refine jx_vr (pc' := 257) (as := [.int (i32 (4)), .int (i32 (pl))]) (st := []) rfl rfl rfl rfl ⟨rfl, rfl, Nat.le_of_ble_eq_true rfl⟩ rfl rfl (c_fail (dd := d) (hd := by omega) (hW := hWx) (kind := 4) (place := pl) (fk := fk1) (e_fk := show Gx 16 = fk1 from (ex_fk1))  (h_kind := ⟨(by decide), (by decide)⟩) (h_place := ⟨(Int.le_trans (by decide : (-2147483648 : Int) ≤ -2147483648) rx_pl.1), (Int.le_trans rx_pl.2 (by decide : (2147483647 : Int) ≤ 2147483647))⟩)  (p_0 := by omega) (p_1 := by omega)) (fun o V' hq => ?_)
        obtain ⟨G312, A313, fk2_314, rfl, rfl, hW315, hF316, e317, p318, -⟩ := hq
        have hF320 := Fr_tr hFx hF316 (Fr_sub (by decide)) (Fr_sub (by decide))
        have hP321 := Pf_f hPx hF316 (by decide)
        have bfk2_314 : (0 : Int) ≤ fk2_314 ∧ fk2_314 ≤ 6 := e317 ▸ hW315.1 16
        refine .inl ⟨rfl, ?_⟩
        refine jx_ar (pc' := 258) (st' := [.int (i32 (0))]) rfl rfl rfl rfl ?_
        refine jx_rt (v := some (.int (i32 (0)))) rfl rfl rfl rfl rfl rfl ?_
        exact ⟨_, _, _, at1, fk2_314, nd1, ln, rfl, rfl, hW315, hF320, hP321, by omega, ((hF316.1 10 rfl).trans (ex_at1)), (e317), ((hF316.1 31 rfl).trans (ex_nd1)), ((hF316.1 9 rfl).trans (fx_9)), by omega, by omega, by omega, by omega, by omega, by first | exact Or.inl (⟨by omega, by omega, by omega⟩) | exact Or.inr ((⟨by omega, by omega, by omega, by omega, by omega⟩))⟩
  have at_180 : ∀ (L : jL) (Gx : Nat → Int) (Ax : Nat → Nat → Int) (n at1 tk1 fk1 nd1 op1 : Int), jGet L 0 = some (.ref 66) → jGet L 6 = some (.int (i32 n)) → Wk Gx Ax → Fr [9, 10, 11, 12, 13, 14, 15, 16, 17, 18, 31] [15, 16, 17, 18, 19, 20, 21, 22, 24, 28] G A Gx Ax → Pf nd A Ax → Gx 10 = at1 → Gx 11 = tk1 → Gx 16 = fk1 → Gx 31 = nd1 → Gx 15 = op1 → Gx 9 = ln → ((-2147483648 : Int) ≤ n ∧ n ≤ 2147483647) → (at0 ≤ at1) → (at1 ≤ le) → (nd ≤ nd1) → (op1 = op0) → (fk1 = 0) → (nd1 - nd ≤ (2 * at1 - tz tk1) - (2 * at0 - tz tk0) + 1) → (tz tk1 = 1) → (nd ≤ n ∧ n ≤ 6998 ∧ n < nd1) → wj X d jm304 (180, L, [], rV c0 c1 Gx Ax T) (fun o V' => ∃ (G' : Nat → Int) (A' : Nat → Nat → Int) (r : Int) (at2 : Int) (fk2 : Int) (nd2 : Int) (ln2 : Int), V' = rV c0 c1 G' A' T ∧ o = .inl (some (.int (i32 r))) ∧ Wk G' A' ∧ Fr [9, 10, 11, 12, 13, 14, 15, 16, 17, 18, 31] [15, 16, 17, 18, 19, 20, 21, 22, 24, 28] G A G' A' ∧ Pf nd A A' ∧ ((-2147483648 : Int) ≤ r ∧ r ≤ 2147483647) ∧ G' 10 = at2 ∧ G' 16 = fk2 ∧ G' 31 = nd2 ∧ G' 9 = ln2 ∧ (at0 ≤ at2) ∧ (at2 ≤ le) ∧ (nd ≤ nd2) ∧ (0 ≤ r) ∧ (r ≤ nd2) ∧ (((1 ≤ fk2) ∧ (ln2 = ln) ∧ (nd2 - nd ≤ 2 * at2 - 2 * at0 + 8)) ∨ ((fk2 = 0) ∧ (ln2 = ln + 1) ∧ (nd2 - nd ≤ 2 * at2 - (2 * at0 - tz tk0) + 0) ∧ (nd ≤ r) ∧ (r < nd2)))) := by
    intro L Gx Ax n at1 tk1 fk1 nd1 op1 gL_0 gL_6 hWx hFx hPx ex_at1 ex_tk1 ex_fk1 ex_nd1 ex_op1 fx_9 rx_n iv_0 iv_1 iv_2 iv_3 iv_4 iv_5 iv_6 iv_7
    have b_at1 : (0 : Int) ≤ at1 ∧ at1 ≤ 3002 := ex_at1 ▸ hWx.1 10
    have z_tk1 := tz_f tk1
    have b_tk1 : (0 : Int) ≤ tk1 ∧ tk1 ≤ 5 := ex_tk1 ▸ hWx.1 11
    have b_fk1 : (0 : Int) ≤ fk1 ∧ fk1 ≤ 6 := ex_fk1 ▸ hWx.1 16
    have b_nd1 : (0 : Int) ≤ nd1 ∧ nd1 ≤ 6999 := ex_nd1 ▸ hWx.1 31
    have b_op1 : (-2147483648 : Int) ≤ op1 ∧ op1 ≤ 2147483647 := ex_op1 ▸ hWx.1 15
    refine jx_ld (pc' := 181) (l' := L) (st' := [.ref 66]) rfl (jl_aloadn gL_0) ?_
    refine jx_vr (pc' := 184) (as := []) (st := []) rfl rfl rfl rfl ⟨rfl, rfl, Nat.le_of_ble_eq_true rfl⟩ rfl rfl (c_next (dd := d) (hd := by omega) (hW := hWx)  (ln := ln) (e_ln := show Gx 9 = ln from (fx_9)) (le := le) (e_le := show Ax 4 (ln).toNat = le from (congrFun (hFx.2 4 rfl) _).trans (e_le)) (at0 := at1) (e_at0 := show Gx 10 = at1 from (ex_at1))    (p_0 := by omega)) (fun o V' hq => ?_)
    obtain ⟨G322, A323, at2_324, tk2_325, rfl, rfl, hW326, hF327, e328, e329, p330, p331, p332, -⟩ := hq
    have hF334 := Fr_tr hFx hF327 (Fr_sub (by decide)) (Fr_sub (by decide))
    have hP335 := Pf_f hPx hF327 (by decide)
    have bat2_324 : (0 : Int) ≤ at2_324 ∧ at2_324 ≤ 3002 := e328 ▸ hW326.1 10
    have ztk2_325 := tz_b tk2_325
    have btk2_325 : (0 : Int) ≤ tk2_325 ∧ tk2_325 ≤ 5 := e329 ▸ hW326.1 11
    refine .inl ⟨rfl, ?_⟩
    refine jx_ld (pc' := 185) (l' := L) (st' := [.ref 66]) rfl (jl_aloadn gL_0) ?_
    refine jr_get (pc' := 188) (i := 35) (v := .ref 85) rfl rfl (by decide) rfl rfl ?_
    refine jx_ld (pc' := 190) (l' := L) (st' := [.int (i32 (n)), .ref 85]) rfl (jl_iload gL_6) ?_
    refine jx_ld (pc' := 191) (l' := L) (st' := [.ref 66, .int (i32 (n)), .ref 85]) rfl (jl_aloadn gL_0) ?_
    refine jx_vr (pc' := 194) (as := []) (st := [.int (i32 (n)), .ref 85]) rfl rfl rfl rfl ⟨rfl, rfl, Nat.le_of_ble_eq_true rfl⟩ rfl rfl (RE_all X 9 (dd := d) (hd := by omega) (hW := hW326)  (ln := ln) (e_ln := show G322 9 = ln from ((hF327.1 9 rfl).trans (fx_9))) (le := le) (e_le := show A323 4 (ln).toNat = le from (congrFun ((hF327.2 4 rfl).trans (hFx.2 4 rfl)) _).trans (e_le)) (at0 := at2_324) (e_at0 := show G322 10 = at2_324 from (e328)) (fk := fk1) (e_fk := show G322 16 = fk1 from ((hF327.1 16 rfl).trans (ex_fk1))) (op0 := op1) (e_op0 := show G322 15 = op1 from ((hF327.1 15 rfl).trans (ex_op1))) (nd := nd1) (e_nd := show G322 31 = nd1 from ((hF327.1 31 rfl).trans (ex_nd1))) (tk0 := tk2_325) (e_tk0 := show G322 11 = tk2_325 from (e329))    (p_0 := by omega) (p_1 := by omega) (p_2 := by omega) (p_3 := by omega) (p_4 := by omega) (p_5 := by omega)) (fun o V' hq => ?_)
    obtain ⟨G336, A337, r338, at2_339, fk2_340, op2_341, nd2_342, tk2_343, rfl, rfl, hW344, hF345, hQ346, b347, e348, e349, e350, e351, e352, p353, p354, p355, p356, p357, p358, q359⟩ := hq
    have hF360 := Fr_tr hF334 hF345 (Fr_sub (by decide)) (Fr_sub (by decide))
    have hP361 := Pf_tr hP335 hQ346 (by omega)
    have bat2_339 : (0 : Int) ≤ at2_339 ∧ at2_339 ≤ 3002 := e348 ▸ hW344.1 10
    have bfk2_340 : (0 : Int) ≤ fk2_340 ∧ fk2_340 ≤ 6 := e349 ▸ hW344.1 16
    have bop2_341 : (-2147483648 : Int) ≤ op2_341 ∧ op2_341 ≤ 2147483647 := e350 ▸ hW344.1 15
    have bnd2_342 : (0 : Int) ≤ nd2_342 ∧ nd2_342 ≤ 6999 := e351 ▸ hW344.1 31
    have ztk2_343 := tz_b tk2_343
    have btk2_343 : (0 : Int) ≤ tk2_343 ∧ tk2_343 ≤ 5 := e352 ▸ hW344.1 11
    refine .inr ⟨_, rfl, ?_⟩
    rcases q359 with ⟨a362, a363, a364, a365, a366, a367⟩ | ⟨a368, a369, a370⟩ | ⟨a371, a372, a373⟩
    · have _q : True := trivial
      exfalso
      omega
    · have _q : True := trivial
      refine jr_st (pc' := 195) (i := 18) (m := 7000) (z := n) (y := r338) rfl (by decide) rfl (by decide) (by omega) (by omega) rfl ?_
      have hW375 : Wk G336 (uA A337 18 (n).toNat (r338)) := Wk_a hW344 (show (-2147483648 : Int) ≤ r338 by omega) (show r338 ≤ (2147483647 : Int) by omega)
      have hF376 := Fr_a (z := r338) (k := 18) (n := (n).toNat) hF360 (by decide)
      obtain ⟨A374, eA374⟩ : ∃ q, q = uA A337 18 (n).toNat (r338) := ⟨_, rfl⟩
      rw [← eA374]
      rw [← eA374] at hW375 hF376
      have q377 : A374 18 (n).toNat = r338 := by rw [eA374]; exact uA_eq
      have hP378 : Pf nd A A374 := eA374 ▸ Pf_a hP361 (z := n) (by omega) (by omega)
      refine jx_ld (pc' := 196) (l' := L) (st' := [.ref 66]) rfl (jl_aloadn gL_0) ?_
      refine jx_vr (pc' := 199) (as := []) (st := []) rfl rfl rfl rfl ⟨rfl, rfl, Nat.le_of_ble_eq_true rfl⟩ rfl rfl (c_endLine (dd := d) (hd := by omega) (hW := hW375)  (ln := ln) (e_ln := show G336 9 = ln from ((hF345.1 9 rfl).trans ((hF327.1 9 rfl).trans (fx_9)))) (li := li) (e_li := show G336 3 = li from ((hF345.1 3 rfl).trans ((hF327.1 3 rfl).trans ((hFx.1 3 rfl).trans (e_li))))) (fk := fk2_340) (e_fk := show G336 16 = fk2_340 from (e349)) (tk0 := tk2_343) (e_tk0 := show G336 11 = tk2_343 from (e352))    (p_0 := by omega)) (fun o V' hq => ?_)
      obtain ⟨G379, A380, ln2_381, fk2_382, rfl, rfl, hW383, hF384, e385, e386, q387⟩ := hq
      have hF388 := Fr_tr hF376 hF384 (Fr_sub (by decide)) (Fr_sub (by decide))
      have hP389 := Pf_f hP378 hF384 (by decide)
      have bln2_381 : (0 : Int) ≤ ln2_381 ∧ ln2_381 ≤ 3000 := e385 ▸ hW383.1 9
      have bfk2_382 : (0 : Int) ≤ fk2_382 ∧ fk2_382 ≤ 6 := e386 ▸ hW383.1 16
      refine .inl ⟨rfl, ?_⟩
      rcases q387 with ⟨a390, a391, a392, a393, a394⟩ | ⟨a395, a396⟩
      · have _q : True := trivial
        exfalso
        omega
      · have _q : True := trivial
        refine jx_ld (pc' := 201) (l' := L) (st' := [.int (i32 (n))]) rfl (jl_iload gL_6) ?_
        refine jx_rt (v := some (.int (i32 (n)))) rfl rfl rfl rfl rfl rfl ?_
        exact ⟨_, _, _, at2_339, fk2_382, nd2_342, ln2_381, rfl, rfl, hW383, hF388, hP389, by omega, ((hF384.1 10 rfl).trans (e348)), (e386), ((hF384.1 31 rfl).trans (e351)), (e385), by omega, by omega, by omega, by omega, by omega, by first | exact Or.inl (⟨by omega, by omega, by omega⟩) | exact Or.inr ((⟨by omega, by omega, by omega, by omega, by omega⟩))⟩
    · have _q : True := trivial
      refine jr_st (pc' := 195) (i := 18) (m := 7000) (z := n) (y := r338) rfl (by decide) rfl (by decide) (by omega) (by omega) rfl ?_
      have hW398 : Wk G336 (uA A337 18 (n).toNat (r338)) := Wk_a hW344 (show (-2147483648 : Int) ≤ r338 by omega) (show r338 ≤ (2147483647 : Int) by omega)
      have hF399 := Fr_a (z := r338) (k := 18) (n := (n).toNat) hF360 (by decide)
      obtain ⟨A397, eA397⟩ : ∃ q, q = uA A337 18 (n).toNat (r338) := ⟨_, rfl⟩
      rw [← eA397]
      rw [← eA397] at hW398 hF399
      have q400 : A397 18 (n).toNat = r338 := by rw [eA397]; exact uA_eq
      have hP401 : Pf nd A A397 := eA397 ▸ Pf_a hP361 (z := n) (by omega) (by omega)
      refine jx_ld (pc' := 196) (l' := L) (st' := [.ref 66]) rfl (jl_aloadn gL_0) ?_
      refine jx_vr (pc' := 199) (as := []) (st := []) rfl rfl rfl rfl ⟨rfl, rfl, Nat.le_of_ble_eq_true rfl⟩ rfl rfl (c_endLine (dd := d) (hd := by omega) (hW := hW398)  (ln := ln) (e_ln := show G336 9 = ln from ((hF345.1 9 rfl).trans ((hF327.1 9 rfl).trans (fx_9)))) (li := li) (e_li := show G336 3 = li from ((hF345.1 3 rfl).trans ((hF327.1 3 rfl).trans ((hFx.1 3 rfl).trans (e_li))))) (fk := fk2_340) (e_fk := show G336 16 = fk2_340 from (e349)) (tk0 := tk2_343) (e_tk0 := show G336 11 = tk2_343 from (e352))    (p_0 := by omega)) (fun o V' hq => ?_)
      obtain ⟨G402, A403, ln2_404, fk2_405, rfl, rfl, hW406, hF407, e408, e409, q410⟩ := hq
      have hF411 := Fr_tr hF399 hF407 (Fr_sub (by decide)) (Fr_sub (by decide))
      have hP412 := Pf_f hP401 hF407 (by decide)
      have bln2_404 : (0 : Int) ≤ ln2_404 ∧ ln2_404 ≤ 3000 := e408 ▸ hW406.1 9
      have bfk2_405 : (0 : Int) ≤ fk2_405 ∧ fk2_405 ≤ 6 := e409 ▸ hW406.1 16
      refine .inl ⟨rfl, ?_⟩
      rcases q410 with ⟨a413, a414, a415, a416, a417⟩ | ⟨a418, a419⟩
      · have _q : True := trivial
        refine jx_ld (pc' := 201) (l' := L) (st' := [.int (i32 (n))]) rfl (jl_iload gL_6) ?_
        refine jx_rt (v := some (.int (i32 (n)))) rfl rfl rfl rfl rfl rfl ?_
        exact ⟨_, _, _, at2_339, fk2_405, nd2_342, ln2_404, rfl, rfl, hW406, hF411, hP412, by omega, ((hF407.1 10 rfl).trans (e348)), (e409), ((hF407.1 31 rfl).trans (e351)), (e408), by omega, by omega, by omega, by omega, by omega, by first | exact Or.inl (⟨by omega, by omega, by omega⟩) | exact Or.inr ((⟨by omega, by omega, by omega, by omega, by omega⟩))⟩
      · have _q : True := trivial
        refine jx_ld (pc' := 201) (l' := L) (st' := [.int (i32 (n))]) rfl (jl_iload gL_6) ?_
        refine jx_rt (v := some (.int (i32 (n)))) rfl rfl rfl rfl rfl rfl ?_
        exact ⟨_, _, _, at2_339, fk2_405, nd2_342, ln2_404, rfl, rfl, hW406, hF411, hP412, by omega, ((hF407.1 10 rfl).trans (e348)), (e409), ((hF407.1 31 rfl).trans (e351)), (e408), by omega, by omega, by omega, by omega, by omega, by first | exact Or.inl (⟨by omega, by omega, by omega⟩) | exact Or.inr ((⟨by omega, by omega, by omega, by omega, by omega⟩))⟩
  have at_150 : ∀ (L : jL) (Gx : Nat → Int) (Ax : Nat → Nat → Int) (s ix row at1 tk1 fk1 nd1 op1 : Int), jGet L 0 = some (.ref 66) → jGet L 2 = some (.int (i32 s)) → jGet L 4 = some (.int (i32 ix)) → jGet L 5 = some (.int (i32 row)) → Wk Gx Ax → Fr [9, 10, 11, 12, 13, 14, 15, 16, 17, 18, 31] [15, 16, 17, 18, 19, 20, 21, 22, 24, 28] G A Gx Ax → Pf nd A Ax → Gx 10 = at1 → Gx 11 = tk1 → Gx 16 = fk1 → Gx 31 = nd1 → Gx 15 = op1 → Gx 9 = ln → ((-2147483648 : Int) ≤ s ∧ s ≤ 2147483647) → ((-2147483648 : Int) ≤ ix ∧ ix ≤ 2147483647) → ((-2147483648 : Int) ≤ row ∧ row ≤ 2147483647) → (at0 ≤ at1) → (at1 ≤ le) → (nd ≤ nd1) → (op1 = op0) → (fk1 = 0) → (nd1 - nd ≤ (2 * at1 - tz tk1) - (2 * at0 - tz tk0) - 1) → (tz tk1 = 1) → (0 ≤ row ∧ row ≤ 1) → wj X d jm304 (150, L, [], rV c0 c1 Gx Ax T) (fun o V' => ∃ (G' : Nat → Int) (A' : Nat → Nat → Int) (r : Int) (at2 : Int) (fk2 : Int) (nd2 : Int) (ln2 : Int), V' = rV c0 c1 G' A' T ∧ o = .inl (some (.int (i32 r))) ∧ Wk G' A' ∧ Fr [9, 10, 11, 12, 13, 14, 15, 16, 17, 18, 31] [15, 16, 17, 18, 19, 20, 21, 22, 24, 28] G A G' A' ∧ Pf nd A A' ∧ ((-2147483648 : Int) ≤ r ∧ r ≤ 2147483647) ∧ G' 10 = at2 ∧ G' 16 = fk2 ∧ G' 31 = nd2 ∧ G' 9 = ln2 ∧ (at0 ≤ at2) ∧ (at2 ≤ le) ∧ (nd ≤ nd2) ∧ (0 ≤ r) ∧ (r ≤ nd2) ∧ (((1 ≤ fk2) ∧ (ln2 = ln) ∧ (nd2 - nd ≤ 2 * at2 - 2 * at0 + 8)) ∨ ((fk2 = 0) ∧ (ln2 = ln + 1) ∧ (nd2 - nd ≤ 2 * at2 - (2 * at0 - tz tk0) + 0) ∧ (nd ≤ r) ∧ (r < nd2)))) := by
    intro L Gx Ax s ix row at1 tk1 fk1 nd1 op1 gL_0 gL_2 gL_4 gL_5 hWx hFx hPx ex_at1 ex_tk1 ex_fk1 ex_nd1 ex_op1 fx_9 rx_s rx_ix rx_row iv_0 iv_1 iv_2 iv_3 iv_4 iv_5 iv_6 iv_7
    have b_at1 : (0 : Int) ≤ at1 ∧ at1 ≤ 3002 := ex_at1 ▸ hWx.1 10
    have z_tk1 := tz_f tk1
    have b_tk1 : (0 : Int) ≤ tk1 ∧ tk1 ≤ 5 := ex_tk1 ▸ hWx.1 11
    have b_fk1 : (0 : Int) ≤ fk1 ∧ fk1 ≤ 6 := ex_fk1 ▸ hWx.1 16
    have b_nd1 : (0 : Int) ≤ nd1 ∧ nd1 ≤ 6999 := ex_nd1 ▸ hWx.1 31
    have b_op1 : (-2147483648 : Int) ≤ op1 ∧ op1 ≤ 2147483647 := ex_op1 ▸ hWx.1 15
    refine jx_ld (pc' := 151) (l' := L) (st' := [.ref 66]) rfl (jl_aloadn gL_0) ?_
    refine jx_ar (pc' := 153) (st' := [.int (i32 (22)), .ref 66]) rfl rfl rfl rfl ?_
    refine jx_ld (pc' := 154) (l' := L) (st' := [.ref 66, .int (i32 (22)), .ref 66]) rfl (jl_aloadn gL_0) ?_
    refine jx_ld (pc' := 156) (l' := L) (st' := [.int (i32 (row)), .ref 66, .int (i32 (22)), .ref 66]) rfl (jl_iload gL_5) ?_
    refine jx_if_eq (pc' := 159) (tg := 163) rfl rfl rfl (Int.le_trans (by decide : (-2147483648 : Int) ≤ -2147483648) rx_row.1) (Int.le_trans rx_row.2 (by decide : (2147483647 : Int) ≤ 2147483647)) (fun h420 => ?_) (fun h420 => ?_)
    · have _q := h420
      refine jx_ar (pc' := 164) (st' := [.int (i32 (2)), .ref 66, .int (i32 (22)), .ref 66]) rfl rfl rfl rfl ?_
      refine jx_ld (pc' := 165) (l' := L) (st' := [.int (i32 (s)), .int (i32 (2)), .ref 66, .int (i32 (22)), .ref 66]) rfl (jl_iloadn gL_2) ?_
      refine jx_ld (pc' := 167) (l' := L) (st' := [.int (i32 (ix)), .int (i32 (s)), .int (i32 (2)), .ref 66, .int (i32 (22)), .ref 66]) rfl (jl_iload gL_4) ?_
      refine jx_ar (pc' := 168) (st' := [.int (i32 (0)), .int (i32 (ix)), .int (i32 (s)), .int (i32 (2)), .ref 66, .int (i32 (22)), .ref 66]) rfl rfl rfl rfl ?_
      refine jx_ar (pc' := 169) (st' := [.int (i32 (0)), .int (i32 (0)), .int (i32 (ix)), .int (i32 (s)), .int (i32 (2)), .ref 66, .int (i32 (22)), .ref 66]) rfl rfl rfl rfl ?_
      refine jx_vr (pc' := 172) (as := [.int (i32 (2)), .int (i32 (s)), .int (i32 (ix)), .int (i32 (0)), .int (i32 (0))]) (st := [.int (i32 (22)), .ref 66]) rfl rfl rfl rfl ⟨rfl, rfl, Nat.le_of_ble_eq_true rfl⟩ rfl rfl (c_node (dd := d) (hd := by omega) (hW := hWx) (kind := 2) (a := s) (b := ix) (c := 0) (e := 0) (nd := nd1) (e_nd := show Gx 31 = nd1 from (ex_nd1))  (h_kind := ⟨(by decide), (by decide)⟩) (h_a := ⟨(Int.le_trans (by decide : (-2147483648 : Int) ≤ -2147483648) rx_s.1), (Int.le_trans rx_s.2 (by decide : (2147483647 : Int) ≤ 2147483647))⟩) (h_b := ⟨(Int.le_trans (by decide : (-2147483648 : Int) ≤ -2147483648) rx_ix.1), (Int.le_trans rx_ix.2 (by decide : (2147483647 : Int) ≤ 2147483647))⟩) (h_c := ⟨(by decide), (by decide)⟩) (h_e := ⟨(by decide), (by decide)⟩)  (p_0 := by omega) (p_1 := by omega)) (fun o V' hq => ?_)
      obtain ⟨G421, A422, nd2_423, rfl, rfl, hW424, hF425, hQ426, e427, p428, -⟩ := hq
      have hF430 := Fr_tr hFx hF425 (Fr_sub (by decide)) (Fr_sub (by decide))
      have hP431 := Pf_tr hPx hQ426 (by omega)
      have bnd2_423 : (0 : Int) ≤ nd2_423 ∧ nd2_423 ≤ 6999 := e427 ▸ hW424.1 31
      refine .inr ⟨_, rfl, ?_⟩
      refine jx_ar (pc' := 173) (st' := [.int (i32 (0)), .int (i32 (nd1)), .int (i32 (22)), .ref 66]) rfl rfl rfl rfl ?_
      refine jx_ar (pc' := 174) (st' := [.int (i32 (0)), .int (i32 (0)), .int (i32 (nd1)), .int (i32 (22)), .ref 66]) rfl rfl rfl rfl ?_
      refine jx_ar (pc' := 175) (st' := [.int (i32 (0)), .int (i32 (0)), .int (i32 (0)), .int (i32 (nd1)), .int (i32 (22)), .ref 66]) rfl rfl rfl rfl ?_
      refine jx_vr (pc' := 178) (as := [.int (i32 (22)), .int (i32 (nd1)), .int (i32 (0)), .int (i32 (0)), .int (i32 (0))]) (st := []) rfl rfl rfl rfl ⟨rfl, rfl, Nat.le_of_ble_eq_true rfl⟩ rfl rfl (c_node (dd := d) (hd := by omega) (hW := hW424) (kind := 22) (a := nd1) (b := 0) (c := 0) (e := 0) (nd := nd2_423) (e_nd := show G421 31 = nd2_423 from (e427))  (h_kind := ⟨(by decide), (by decide)⟩) (h_a := ⟨(Int.le_trans (by decide : (-2147483648 : Int) ≤ 0) b_nd1.1), (Int.le_trans b_nd1.2 (by decide : (6999 : Int) ≤ 2147483647))⟩) (h_b := ⟨(by decide), (by decide)⟩) (h_c := ⟨(by decide), (by decide)⟩) (h_e := ⟨(by decide), (by decide)⟩)  (p_0 := by omega) (p_1 := by omega)) (fun o V' hq => ?_)
      obtain ⟨G432, A433, nd2_434, rfl, rfl, hW435, hF436, hQ437, e438, p439, -⟩ := hq
      have hF441 := Fr_tr hF430 hF436 (Fr_sub (by decide)) (Fr_sub (by decide))
      have hP442 := Pf_tr hP431 hQ437 (by omega)
      have bnd2_434 : (0 : Int) ≤ nd2_434 ∧ nd2_434 ≤ 6999 := e438 ▸ hW435.1 31
      refine .inr ⟨_, rfl, ?_⟩
      refine jx_ld (pc' := 180) (l' := jSto1 L 6 (.int (i32 (nd2_423)))) (st' := []) rfl rfl ?_
      obtain ⟨L443, eL443⟩ : ∃ q, q = jSto1 L 6 (.int (i32 (nd2_423))) := ⟨_, rfl⟩
      rw [← eL443]
      have gL443_0 : jGet L443 0 = some (.ref 66) := eL443 ▸ jg_ne (by decide) gL_0 rfl
      have gL443_2 : jGet L443 2 = some (.int (i32 (s))) := eL443 ▸ jg_ne (by decide) gL_2 rfl
      have gL443_4 : jGet L443 4 = some (.int (i32 (ix))) := eL443 ▸ jg_ne (by decide) gL_4 rfl
      have gL443_5 : jGet L443 5 = some (.int (i32 (row))) := eL443 ▸ jg_ne (by decide) gL_5 rfl
      have gL443_6 : jGet L443 6 = some (.int (i32 (nd2_423))) := eL443 ▸ jg_eq
      have z444 := tz_f (tk1)
      exact at_180 L443 G432 A433 (nd2_423) (at1) (tk1) (fk1) (nd2_434) (op1) gL443_0 gL443_6 hW435 hF441 hP442 (((hF436.1 10 rfl).trans ((hF425.1 10 rfl).trans (ex_at1)))) (((hF436.1 11 rfl).trans ((hF425.1 11 rfl).trans (ex_tk1)))) (((hF436.1 16 rfl).trans ((hF425.1 16 rfl).trans (ex_fk1)))) ((e438)) (((hF436.1 15 rfl).trans ((hF425.1 15 rfl).trans (ex_op1)))) (((hF436.1 9 rfl).trans ((hF425.1 9 rfl).trans (fx_9)))) (by omega) (by omega) (by omega) (by omega) (by omega) (by omega) (by omega) (by omega) (by omega)
    · have _q := h420
      refine jx_ar (pc' := 160) (st' := [.int (i32 (3)), .ref 66, .int (i32 (22)), .ref 66]) rfl rfl rfl rfl ?_
      refine jx_go (tg := 164) rfl rfl ?_
      refine jx_ld (pc' := 165) (l' := L) (st' := [.int (i32 (s)), .int (i32 (3)), .ref 66, .int (i32 (22)), .ref 66]) rfl (jl_iloadn gL_2) ?_
      refine jx_ld (pc' := 167) (l' := L) (st' := [.int (i32 (ix)), .int (i32 (s)), .int (i32 (3)), .ref 66, .int (i32 (22)), .ref 66]) rfl (jl_iload gL_4) ?_
      refine jx_ar (pc' := 168) (st' := [.int (i32 (0)), .int (i32 (ix)), .int (i32 (s)), .int (i32 (3)), .ref 66, .int (i32 (22)), .ref 66]) rfl rfl rfl rfl ?_
      refine jx_ar (pc' := 169) (st' := [.int (i32 (0)), .int (i32 (0)), .int (i32 (ix)), .int (i32 (s)), .int (i32 (3)), .ref 66, .int (i32 (22)), .ref 66]) rfl rfl rfl rfl ?_
      refine jx_vr (pc' := 172) (as := [.int (i32 (3)), .int (i32 (s)), .int (i32 (ix)), .int (i32 (0)), .int (i32 (0))]) (st := [.int (i32 (22)), .ref 66]) rfl rfl rfl rfl ⟨rfl, rfl, Nat.le_of_ble_eq_true rfl⟩ rfl rfl (c_node (dd := d) (hd := by omega) (hW := hWx) (kind := 3) (a := s) (b := ix) (c := 0) (e := 0) (nd := nd1) (e_nd := show Gx 31 = nd1 from (ex_nd1))  (h_kind := ⟨(by decide), (by decide)⟩) (h_a := ⟨(Int.le_trans (by decide : (-2147483648 : Int) ≤ -2147483648) rx_s.1), (Int.le_trans rx_s.2 (by decide : (2147483647 : Int) ≤ 2147483647))⟩) (h_b := ⟨(Int.le_trans (by decide : (-2147483648 : Int) ≤ -2147483648) rx_ix.1), (Int.le_trans rx_ix.2 (by decide : (2147483647 : Int) ≤ 2147483647))⟩) (h_c := ⟨(by decide), (by decide)⟩) (h_e := ⟨(by decide), (by decide)⟩)  (p_0 := by omega) (p_1 := by omega)) (fun o V' hq => ?_)
      obtain ⟨G445, A446, nd2_447, rfl, rfl, hW448, hF449, hQ450, e451, p452, -⟩ := hq
      have hF454 := Fr_tr hFx hF449 (Fr_sub (by decide)) (Fr_sub (by decide))
      have hP455 := Pf_tr hPx hQ450 (by omega)
      have bnd2_447 : (0 : Int) ≤ nd2_447 ∧ nd2_447 ≤ 6999 := e451 ▸ hW448.1 31
      refine .inr ⟨_, rfl, ?_⟩
      refine jx_ar (pc' := 173) (st' := [.int (i32 (0)), .int (i32 (nd1)), .int (i32 (22)), .ref 66]) rfl rfl rfl rfl ?_
      refine jx_ar (pc' := 174) (st' := [.int (i32 (0)), .int (i32 (0)), .int (i32 (nd1)), .int (i32 (22)), .ref 66]) rfl rfl rfl rfl ?_
      refine jx_ar (pc' := 175) (st' := [.int (i32 (0)), .int (i32 (0)), .int (i32 (0)), .int (i32 (nd1)), .int (i32 (22)), .ref 66]) rfl rfl rfl rfl ?_
      refine jx_vr (pc' := 178) (as := [.int (i32 (22)), .int (i32 (nd1)), .int (i32 (0)), .int (i32 (0)), .int (i32 (0))]) (st := []) rfl rfl rfl rfl ⟨rfl, rfl, Nat.le_of_ble_eq_true rfl⟩ rfl rfl (c_node (dd := d) (hd := by omega) (hW := hW448) (kind := 22) (a := nd1) (b := 0) (c := 0) (e := 0) (nd := nd2_447) (e_nd := show G445 31 = nd2_447 from (e451))  (h_kind := ⟨(by decide), (by decide)⟩) (h_a := ⟨(Int.le_trans (by decide : (-2147483648 : Int) ≤ 0) b_nd1.1), (Int.le_trans b_nd1.2 (by decide : (6999 : Int) ≤ 2147483647))⟩) (h_b := ⟨(by decide), (by decide)⟩) (h_c := ⟨(by decide), (by decide)⟩) (h_e := ⟨(by decide), (by decide)⟩)  (p_0 := by omega) (p_1 := by omega)) (fun o V' hq => ?_)
      obtain ⟨G456, A457, nd2_458, rfl, rfl, hW459, hF460, hQ461, e462, p463, -⟩ := hq
      have hF465 := Fr_tr hF454 hF460 (Fr_sub (by decide)) (Fr_sub (by decide))
      have hP466 := Pf_tr hP455 hQ461 (by omega)
      have bnd2_458 : (0 : Int) ≤ nd2_458 ∧ nd2_458 ≤ 6999 := e462 ▸ hW459.1 31
      refine .inr ⟨_, rfl, ?_⟩
      refine jx_ld (pc' := 180) (l' := jSto1 L 6 (.int (i32 (nd2_447)))) (st' := []) rfl rfl ?_
      obtain ⟨L467, eL467⟩ : ∃ q, q = jSto1 L 6 (.int (i32 (nd2_447))) := ⟨_, rfl⟩
      rw [← eL467]
      have gL467_0 : jGet L467 0 = some (.ref 66) := eL467 ▸ jg_ne (by decide) gL_0 rfl
      have gL467_2 : jGet L467 2 = some (.int (i32 (s))) := eL467 ▸ jg_ne (by decide) gL_2 rfl
      have gL467_4 : jGet L467 4 = some (.int (i32 (ix))) := eL467 ▸ jg_ne (by decide) gL_4 rfl
      have gL467_5 : jGet L467 5 = some (.int (i32 (row))) := eL467 ▸ jg_ne (by decide) gL_5 rfl
      have gL467_6 : jGet L467 6 = some (.int (i32 (nd2_447))) := eL467 ▸ jg_eq
      have z468 := tz_f (tk1)
      exact at_180 L467 G456 A457 (nd2_447) (at1) (tk1) (fk1) (nd2_458) (op1) gL467_0 gL467_6 hW459 hF465 hP466 (((hF460.1 10 rfl).trans ((hF449.1 10 rfl).trans (ex_at1)))) (((hF460.1 11 rfl).trans ((hF449.1 11 rfl).trans (ex_tk1)))) (((hF460.1 16 rfl).trans ((hF449.1 16 rfl).trans (ex_fk1)))) ((e462)) (((hF460.1 15 rfl).trans ((hF449.1 15 rfl).trans (ex_op1)))) (((hF460.1 9 rfl).trans ((hF449.1 9 rfl).trans (fx_9)))) (by omega) (by omega) (by omega) (by omega) (by omega) (by omega) (by omega) (by omega) (by omega)
  have at_110 : ∀ (L : jL) (Gx : Nat → Int) (Ax : Nat → Nat → Int) (pl s kd ix row at1 tk1 fk1 nd1 op1 : Int), jGet L 0 = some (.ref 66) → jGet L 1 = some (.int (i32 pl)) → jGet L 2 = some (.int (i32 s)) → jGet L 3 = some (.int (i32 kd)) → jGet L 4 = some (.int (i32 ix)) → jGet L 5 = some (.int (i32 row)) → Wk Gx Ax → Fr [9, 10, 11, 12, 13, 14, 15, 16, 17, 18, 31] [15, 16, 17, 18, 19, 20, 21, 22, 24, 28] G A Gx Ax → Pf nd A Ax → Gx 10 = at1 → Gx 11 = tk1 → Gx 16 = fk1 → Gx 31 = nd1 → Gx 15 = op1 → Gx 9 = ln → ((-2147483648 : Int) ≤ pl ∧ pl ≤ 2147483647) → ((-2147483648 : Int) ≤ s ∧ s ≤ 2147483647) → ((-2147483648 : Int) ≤ kd ∧ kd ≤ 2147483647) → ((-2147483648 : Int) ≤ ix ∧ ix ≤ 2147483647) → ((-2147483648 : Int) ≤ row ∧ row ≤ 2147483647) → (at0 ≤ at1) → (at1 ≤ le) → (nd ≤ nd1) → (op1 = op0) → (fk1 = 0) → (nd1 - nd ≤ (2 * at1 - tz tk1) - (2 * at0 - tz tk0) - 1) → (0 ≤ s ∧ s ≤ 201) → (-3000 ≤ pl ∧ pl ≤ 3002) → (0 ≤ row ∧ row ≤ 1) → wj X d jm304 (110, L, [], rV c0 c1 Gx Ax T) (fun o V' => ∃ (G' : Nat → Int) (A' : Nat → Nat → Int) (r : Int) (at2 : Int) (fk2 : Int) (nd2 : Int) (ln2 : Int), V' = rV c0 c1 G' A' T ∧ o = .inl (some (.int (i32 r))) ∧ Wk G' A' ∧ Fr [9, 10, 11, 12, 13, 14, 15, 16, 17, 18, 31] [15, 16, 17, 18, 19, 20, 21, 22, 24, 28] G A G' A' ∧ Pf nd A A' ∧ ((-2147483648 : Int) ≤ r ∧ r ≤ 2147483647) ∧ G' 10 = at2 ∧ G' 16 = fk2 ∧ G' 31 = nd2 ∧ G' 9 = ln2 ∧ (at0 ≤ at2) ∧ (at2 ≤ le) ∧ (nd ≤ nd2) ∧ (0 ≤ r) ∧ (r ≤ nd2) ∧ (((1 ≤ fk2) ∧ (ln2 = ln) ∧ (nd2 - nd ≤ 2 * at2 - 2 * at0 + 8)) ∨ ((fk2 = 0) ∧ (ln2 = ln + 1) ∧ (nd2 - nd ≤ 2 * at2 - (2 * at0 - tz tk0) + 0) ∧ (nd ≤ r) ∧ (r < nd2)))) := by
    intro L Gx Ax pl s kd ix row at1 tk1 fk1 nd1 op1 gL_0 gL_1 gL_2 gL_3 gL_4 gL_5 hWx hFx hPx ex_at1 ex_tk1 ex_fk1 ex_nd1 ex_op1 fx_9 rx_pl rx_s rx_kd rx_ix rx_row iv_0 iv_1 iv_2 iv_3 iv_4 iv_5 iv_6 iv_7 iv_8
    have b_at1 : (0 : Int) ≤ at1 ∧ at1 ≤ 3002 := ex_at1 ▸ hWx.1 10
    have z_tk1 := tz_f tk1
    have b_tk1 : (0 : Int) ≤ tk1 ∧ tk1 ≤ 5 := ex_tk1 ▸ hWx.1 11
    have b_fk1 : (0 : Int) ≤ fk1 ∧ fk1 ≤ 6 := ex_fk1 ▸ hWx.1 16
    have b_nd1 : (0 : Int) ≤ nd1 ∧ nd1 ≤ 6999 := ex_nd1 ▸ hWx.1 31
    have b_op1 : (-2147483648 : Int) ≤ op1 ∧ op1 ≤ 2147483647 := ex_op1 ▸ hWx.1 15
    refine jx_ld (pc' := 111) (l' := L) (st' := [.ref 66]) rfl (jl_aloadn gL_0) ?_
    refine jx_ar (pc' := 114) (st' := [.int (i32 (300)), .ref 66]) rfl rfl rfl rfl ?_
    have b469 : (-2147483648 : Int) ≤ Gx 13 ∧ Gx 13 ≤ 2147483647 := hWx.1 13
    refine jx_vr (pc' := 117) (as := [.int (i32 (300))]) (st := []) rfl rfl rfl rfl ⟨rfl, rfl, Nat.le_of_ble_eq_true rfl⟩ rfl rfl (c_is (dd := d) (hd := by omega) (hW := hWx) (k := 300) (tk := tk1) (e_tk := show Gx 11 = tk1 from (ex_tk1)) (tn := Gx 13) (e_tn := show Gx 13 = Gx 13 from rfl)  (h_k := ⟨(by decide), (by decide)⟩)  ) (fun o V' hq => ?_)
    obtain ⟨r470, rfl, rfl, b471, q472⟩ := hq
    refine .inr ⟨_, rfl, ?_⟩
    rcases q472 with ⟨rfl, a473, a474, a475⟩ | rfl
    · have _q : True := trivial
      refine jx_if_eq (pc' := 120) (tg := 202) rfl rfl rfl (by decide) (by decide) (fun h476 => ?_) (fun h476 => ?_)
      · have _q := h476
        exact absurd h476 (by omega)
      · have _q := h476
        refine jx_ld (pc' := 122) (l' := L) (st' := [.int (i32 (row))]) rfl (jl_iload gL_5) ?_
        refine jx_if_eq (pc' := 125) (tg := 135) rfl rfl rfl (Int.le_trans (by decide : (-2147483648 : Int) ≤ -2147483648) rx_row.1) (Int.le_trans rx_row.2 (by decide : (2147483647 : Int) ≤ 2147483647)) (fun h477 => ?_) (fun h477 => ?_)
        · have _q := h477
          refine jx_ld (pc' := 136) (l' := L) (st' := [.int (i32 (kd))]) rfl (jl_iloadn gL_3) ?_
          refine jx_st (pc' := 139) (as := [.int (i32 (kd))]) (st := []) rfl rfl ⟨rfl, Nat.le_of_ble_eq_true rfl⟩ rfl rfl rfl (c_isVariable (dd := d) (hd := by omega) (k := kd)   (h_k := ⟨(Int.le_trans (by decide : (-2147483648 : Int) ≤ -2147483648) rx_kd.1), (Int.le_trans rx_kd.2 (by decide : (2147483647 : Int) ≤ 2147483647))⟩)  ) (fun o V' hq => ?_)
          obtain ⟨r478, rfl, rfl, b479, q480⟩ := hq
          refine .inr ⟨_, rfl, ?_⟩
          rcases q480 with rfl | rfl
          · have _q : True := trivial
            refine jx_if_ne (pc' := 142) (tg := 150) rfl rfl rfl (by decide) (by decide) (fun h481 => ?_) (fun h481 => ?_)
            · have _q := h481
              have z482 := tz_f (tk1)
              exact at_150 L Gx Ax (s) (ix) (row) (at1) (tk1) (fk1) (nd1) (op1) gL_0 gL_2 gL_4 gL_5 hWx hFx hPx ((ex_at1)) ((ex_tk1)) ((ex_fk1)) ((ex_nd1)) ((ex_op1)) ((fx_9)) (by omega) (by omega) (by omega) (by omega) (by omega) (by omega) (by omega) (by omega) (by omega) (by omega) (by omega)
            · have _q := h481
              exact absurd h481 (by omega)
          · have _q : True := trivial
            refine jx_if_ne (pc' := 142) (tg := 150) rfl rfl rfl (by decide) (by decide) (fun h483 => ?_) (fun h483 => ?_)
            · have _q := h483
              exact absurd h483 (by omega)
            · have _q := h483
              refine jx_ld (pc' := 143) (l' := L) (st' := [.ref 66]) rfl (jl_aloadn gL_0) ?_
              refine jx_ar (pc' := 144) (st' := [.int (i32 (4)), .ref 66]) rfl rfl rfl rfl ?_
              refine jx_ld (pc' := 145) (l' := L) (st' := [.int (i32 (pl)), .int (i32 (4)), .ref 66]) rfl (jl_iloadn gL_1) ?_
              refine jx_vr (pc' := 148) (as := [.int (i32 (4)), .int (i32 (pl))]) (st := []) rfl rfl rfl rfl ⟨rfl, rfl, Nat.le_of_ble_eq_true rfl⟩ rfl rfl (c_fail (dd := d) (hd := by omega) (hW := hWx) (kind := 4) (place := pl) (fk := fk1) (e_fk := show Gx 16 = fk1 from (ex_fk1))  (h_kind := ⟨(by decide), (by decide)⟩) (h_place := ⟨(Int.le_trans (by decide : (-2147483648 : Int) ≤ -2147483648) rx_pl.1), (Int.le_trans rx_pl.2 (by decide : (2147483647 : Int) ≤ 2147483647))⟩)  (p_0 := by omega) (p_1 := by omega)) (fun o V' hq => ?_)
              obtain ⟨G484, A485, fk2_486, rfl, rfl, hW487, hF488, e489, p490, -⟩ := hq
              have hF492 := Fr_tr hFx hF488 (Fr_sub (by decide)) (Fr_sub (by decide))
              have hP493 := Pf_f hPx hF488 (by decide)
              have bfk2_486 : (0 : Int) ≤ fk2_486 ∧ fk2_486 ≤ 6 := e489 ▸ hW487.1 16
              refine .inl ⟨rfl, ?_⟩
              refine jx_ar (pc' := 149) (st' := [.int (i32 (0))]) rfl rfl rfl rfl ?_
              refine jx_rt (v := some (.int (i32 (0)))) rfl rfl rfl rfl rfl rfl ?_
              exact ⟨_, _, _, at1, fk2_486, nd1, ln, rfl, rfl, hW487, hF492, hP493, by omega, ((hF488.1 10 rfl).trans (ex_at1)), (e489), ((hF488.1 31 rfl).trans (ex_nd1)), ((hF488.1 9 rfl).trans (fx_9)), by omega, by omega, by omega, by omega, by omega, by first | exact Or.inl (⟨by omega, by omega, by omega⟩) | exact Or.inr ((⟨by omega, by omega, by omega, by omega, by omega⟩))⟩
        · have _q := h477
          refine jx_ld (pc' := 126) (l' := L) (st' := [.int (i32 (kd))]) rfl (jl_iloadn gL_3) ?_
          refine jx_st (pc' := 129) (as := [.int (i32 (kd))]) (st := []) rfl rfl ⟨rfl, Nat.le_of_ble_eq_true rfl⟩ rfl rfl rfl (c_isArray (dd := d) (hd := by omega) (k := kd)   (h_k := ⟨(Int.le_trans (by decide : (-2147483648 : Int) ≤ -2147483648) rx_kd.1), (Int.le_trans rx_kd.2 (by decide : (2147483647 : Int) ≤ 2147483647))⟩)  ) (fun o V' hq => ?_)
          obtain ⟨r494, rfl, rfl, b495, q496⟩ := hq
          refine .inr ⟨_, rfl, ?_⟩
          rcases q496 with rfl | rfl
          · have _q : True := trivial
            refine jx_if_ne (pc' := 132) (tg := 150) rfl rfl rfl (by decide) (by decide) (fun h497 => ?_) (fun h497 => ?_)
            · have _q := h497
              have z498 := tz_f (tk1)
              exact at_150 L Gx Ax (s) (ix) (row) (at1) (tk1) (fk1) (nd1) (op1) gL_0 gL_2 gL_4 gL_5 hWx hFx hPx ((ex_at1)) ((ex_tk1)) ((ex_fk1)) ((ex_nd1)) ((ex_op1)) ((fx_9)) (by omega) (by omega) (by omega) (by omega) (by omega) (by omega) (by omega) (by omega) (by omega) (by omega) (by omega)
            · have _q := h497
              exact absurd h497 (by omega)
          · have _q : True := trivial
            refine jx_if_ne (pc' := 132) (tg := 150) rfl rfl rfl (by decide) (by decide) (fun h499 => ?_) (fun h499 => ?_)
            · have _q := h499
              exact absurd h499 (by omega)
            · have _q := h499
              refine jx_go (tg := 142) rfl rfl ?_
              refine jx_ld (pc' := 143) (l' := L) (st' := [.ref 66]) rfl (jl_aloadn gL_0) ?_
              refine jx_ar (pc' := 144) (st' := [.int (i32 (4)), .ref 66]) rfl rfl rfl rfl ?_
              refine jx_ld (pc' := 145) (l' := L) (st' := [.int (i32 (pl)), .int (i32 (4)), .ref 66]) rfl (jl_iloadn gL_1) ?_
              refine jx_vr (pc' := 148) (as := [.int (i32 (4)), .int (i32 (pl))]) (st := []) rfl rfl rfl rfl ⟨rfl, rfl, Nat.le_of_ble_eq_true rfl⟩ rfl rfl (c_fail (dd := d) (hd := by omega) (hW := hWx) (kind := 4) (place := pl) (fk := fk1) (e_fk := show Gx 16 = fk1 from (ex_fk1))  (h_kind := ⟨(by decide), (by decide)⟩) (h_place := ⟨(Int.le_trans (by decide : (-2147483648 : Int) ≤ -2147483648) rx_pl.1), (Int.le_trans rx_pl.2 (by decide : (2147483647 : Int) ≤ 2147483647))⟩)  (p_0 := by omega) (p_1 := by omega)) (fun o V' hq => ?_)
              obtain ⟨G500, A501, fk2_502, rfl, rfl, hW503, hF504, e505, p506, -⟩ := hq
              have hF508 := Fr_tr hFx hF504 (Fr_sub (by decide)) (Fr_sub (by decide))
              have hP509 := Pf_f hPx hF504 (by decide)
              have bfk2_502 : (0 : Int) ≤ fk2_502 ∧ fk2_502 ≤ 6 := e505 ▸ hW503.1 16
              refine .inl ⟨rfl, ?_⟩
              refine jx_ar (pc' := 149) (st' := [.int (i32 (0))]) rfl rfl rfl rfl ?_
              refine jx_rt (v := some (.int (i32 (0)))) rfl rfl rfl rfl rfl rfl ?_
              exact ⟨_, _, _, at1, fk2_502, nd1, ln, rfl, rfl, hW503, hF508, hP509, by omega, ((hF504.1 10 rfl).trans (ex_at1)), (e505), ((hF504.1 31 rfl).trans (ex_nd1)), ((hF504.1 9 rfl).trans (fx_9)), by omega, by omega, by omega, by omega, by omega, by first | exact Or.inl (⟨by omega, by omega, by omega⟩) | exact Or.inr ((⟨by omega, by omega, by omega, by omega, by omega⟩))⟩
    · have _q : True := trivial
      refine jx_if_eq (pc' := 120) (tg := 202) rfl rfl rfl (by decide) (by decide) (fun h510 => ?_) (fun h510 => ?_)
      · have _q := h510
        refine jx_ld (pc' := 203) (l' := L) (st' := [.ref 66]) rfl (jl_aloadn gL_0) ?_
        refine jx_ar (pc' := 205) (st' := [.int (i32 (33)), .ref 66]) rfl rfl rfl rfl ?_
        refine jx_vr (pc' := 208) (as := [.int (i32 (33))]) (st := []) rfl rfl rfl rfl ⟨rfl, rfl, Nat.le_of_ble_eq_true rfl⟩ rfl rfl (c_is (dd := d) (hd := by omega) (hW := hWx) (k := 33) (tk := tk1) (e_tk := show Gx 11 = tk1 from (ex_tk1)) (tn := Gx 13) (e_tn := show Gx 13 = Gx 13 from rfl)  (h_k := ⟨(by decide), (by decide)⟩)  ) (fun o V' hq => ?_)
        obtain ⟨r511, rfl, rfl, b512, q513⟩ := hq
        refine .inr ⟨_, rfl, ?_⟩
        rcases q513 with ⟨rfl, a514, a515, a516⟩ | rfl
        · have _q : True := trivial
          refine jx_if_ne (pc' := 211) (tg := 231) rfl rfl rfl (by decide) (by decide) (fun h517 => ?_) (fun h517 => ?_)
          · have _q := h517
            have z518 := tz_f (tk1)
            exact at_231 L Gx Ax (pl) (s) (kd) (ix) (row) (at1) (tk1) (fk1) (nd1) (op1) gL_0 gL_1 gL_2 gL_3 gL_4 gL_5 hWx hFx hPx ((ex_at1)) ((ex_tk1)) ((ex_fk1)) ((ex_nd1)) ((ex_op1)) ((fx_9)) (by omega) (by omega) (by omega) (by omega) (by omega) (by omega) (by omega) (by omega) (by omega) (by omega) (by omega) (by omega) (by omega) (by omega)
          · have _q := h517
            exact absurd h517 (by omega)
        · have _q : True := trivial
          refine jx_if_ne (pc' := 211) (tg := 231) rfl rfl rfl (by decide) (by decide) (fun h519 => ?_) (fun h519 => ?_)
          · have _q := h519
            exact absurd h519 (by omega)
          · have _q := h519
            refine jx_ld (pc' := 212) (l' := L) (st' := [.ref 66]) rfl (jl_aloadn gL_0) ?_
            refine jx_ar (pc' := 214) (st' := [.int (i32 (63)), .ref 66]) rfl rfl rfl rfl ?_
            refine jx_vr (pc' := 217) (as := [.int (i32 (63))]) (st := []) rfl rfl rfl rfl ⟨rfl, rfl, Nat.le_of_ble_eq_true rfl⟩ rfl rfl (c_is (dd := d) (hd := by omega) (hW := hWx) (k := 63) (tk := tk1) (e_tk := show Gx 11 = tk1 from (ex_tk1)) (tn := Gx 13) (e_tn := show Gx 13 = Gx 13 from rfl)  (h_k := ⟨(by decide), (by decide)⟩)  ) (fun o V' hq => ?_)
            obtain ⟨r520, rfl, rfl, b521, q522⟩ := hq
            refine .inr ⟨_, rfl, ?_⟩
            rcases q522 with ⟨rfl, a523, a524, a525⟩ | rfl
            · have _q : True := trivial
              refine jx_if_ne (pc' := 220) (tg := 231) rfl rfl rfl (by decide) (by decide) (fun h526 => ?_) (fun h526 => ?_)
              · have _q := h526
                have z527 := tz_f (tk1)
                exact at_231 L Gx Ax (pl) (s) (kd) (ix) (row) (at1) (tk1) (fk1) (nd1) (op1) gL_0 gL_1 gL_2 gL_3 gL_4 gL_5 hWx hFx hPx ((ex_at1)) ((ex_tk1)) ((ex_fk1)) ((ex_nd1)) ((ex_op1)) ((fx_9)) (by omega) (by omega) (by omega) (by omega) (by omega) (by omega) (by omega) (by omega) (by omega) (by omega) (by omega) (by omega) (by omega) (by omega)
              · have _q := h526
                exact absurd h526 (by omega)
            · have _q : True := trivial
              refine jx_if_ne (pc' := 220) (tg := 231) rfl rfl rfl (by decide) (by decide) (fun h528 => ?_) (fun h528 => ?_)
              · have _q := h528
                exact absurd h528 (by omega)
              · have _q := h528
                refine jx_ld (pc' := 221) (l' := L) (st' := [.ref 66]) rfl (jl_aloadn gL_0) ?_
                refine jx_ar (pc' := 222) (st' := [.int (i32 (1)), .ref 66]) rfl rfl rfl rfl ?_
                refine jx_ld (pc' := 223) (l' := L) (st' := [.ref 66, .int (i32 (1)), .ref 66]) rfl (jl_aloadn gL_0) ?_
                have b529 : (-3000 : Int) ≤ Gx 12 ∧ Gx 12 ≤ 3002 := hWx.1 12
                refine jr_get (pc' := 226) (i := 12) (v := .int (i32 (Gx 12))) rfl rfl (by decide) rfl rfl ?_
                refine jx_vr (pc' := 229) (as := [.int (i32 (1)), .int (i32 (Gx 12))]) (st := []) rfl rfl rfl rfl ⟨rfl, rfl, Nat.le_of_ble_eq_true rfl⟩ rfl rfl (c_fail (dd := d) (hd := by omega) (hW := hWx) (kind := 1) (place := Gx 12) (fk := fk1) (e_fk := show Gx 16 = fk1 from (ex_fk1))  (h_kind := ⟨(by decide), (by decide)⟩) (h_place := ⟨(Int.le_trans (by decide : (-2147483648 : Int) ≤ -3000) b529.1), (Int.le_trans b529.2 (by decide : (3002 : Int) ≤ 2147483647))⟩)  (p_0 := by omega) (p_1 := by omega)) (fun o V' hq => ?_)
                obtain ⟨G530, A531, fk2_532, rfl, rfl, hW533, hF534, e535, p536, -⟩ := hq
                have hF538 := Fr_tr hFx hF534 (Fr_sub (by decide)) (Fr_sub (by decide))
                have hP539 := Pf_f hPx hF534 (by decide)
                have bfk2_532 : (0 : Int) ≤ fk2_532 ∧ fk2_532 ≤ 6 := e535 ▸ hW533.1 16
                refine .inl ⟨rfl, ?_⟩
                refine jx_ar (pc' := 230) (st' := [.int (i32 (0))]) rfl rfl rfl rfl ?_
                refine jx_rt (v := some (.int (i32 (0)))) rfl rfl rfl rfl rfl rfl ?_
                exact ⟨_, _, _, at1, fk2_532, nd1, ln, rfl, rfl, hW533, hF538, hP539, by omega, ((hF534.1 10 rfl).trans (ex_at1)), (e535), ((hF534.1 31 rfl).trans (ex_nd1)), ((hF534.1 9 rfl).trans (fx_9)), by omega, by omega, by omega, by omega, by omega, by first | exact Or.inl (⟨by omega, by omega, by omega⟩) | exact Or.inr ((⟨by omega, by omega, by omega, by omega, by omega⟩))⟩
      · have _q := h510
        exact absurd h510 (by omega)
  refine jx_ld (pc' := 1) (l' := [(0, .ref 66)]) (st' := [.ref 66]) rfl (jl_aloadn rfl) ?_
  have b540 : (-3000 : Int) ≤ G 12 ∧ G 12 ≤ 3002 := hW.1 12
  refine jr_get (pc' := 4) (i := 12) (v := .int (i32 (G 12))) rfl rfl (by decide) rfl rfl ?_
  refine jx_ld (pc' := 5) (l' := jSto1 [(0, .ref 66)] 1 (.int (i32 (G 12)))) (st' := []) rfl rfl ?_
  obtain ⟨L541, eL541⟩ : ∃ q, q = jSto1 [(0, .ref 66)] 1 (.int (i32 (G 12))) := ⟨_, rfl⟩
  rw [← eL541]
  have gL541_0 : jGet L541 0 = some (.ref 66) := eL541 ▸ jg_ne (by decide) (rfl : jGet [(0, .ref 66)] 0 = some (.ref 66)) rfl
  have gL541_1 : jGet L541 1 = some (.int (i32 (G 12))) := eL541 ▸ jg_eq
  refine jx_ld (pc' := 6) (l' := L541) (st' := [.ref 66]) rfl (jl_aloadn gL541_0) ?_
  refine jx_vr (pc' := 9) (as := []) (st := []) rfl rfl rfl rfl ⟨rfl, rfl, Nat.le_of_ble_eq_true rfl⟩ rfl rfl (c_lookUp (dd := d) (hd := by omega) (hW := hW)  (fk := fk) (e_fk := show G 16 = fk from (e_fk))    ) (fun o V' hq => ?_)
  obtain ⟨G542, A543, r544, fk2_545, rfl, rfl, hW546, hF547, b548, e549, q550⟩ := hq
  have hF551 := Fr_tr hF0 hF547 (Fr_sub (by decide)) (Fr_sub (by decide))
  have hP552 := Pf_f hP0 hF547 (by decide)
  have bfk2_545 : (0 : Int) ≤ fk2_545 ∧ fk2_545 ≤ 6 := e549 ▸ hW546.1 16
  refine .inr ⟨_, rfl, ?_⟩
  rcases q550 with ⟨a553, a554⟩ | ⟨a555, a556, a557⟩
  · have _q : True := trivial
    refine jx_ld (pc' := 10) (l' := jSto1 L541 2 (.int (i32 (r544)))) (st' := []) rfl rfl ?_
    obtain ⟨L558, eL558⟩ : ∃ q, q = jSto1 L541 2 (.int (i32 (r544))) := ⟨_, rfl⟩
    rw [← eL558]
    have gL558_0 : jGet L558 0 = some (.ref 66) := eL558 ▸ jg_ne (by decide) gL541_0 rfl
    have gL558_1 : jGet L558 1 = some (.int (i32 (G 12))) := eL558 ▸ jg_ne (by decide) gL541_1 rfl
    have gL558_2 : jGet L558 2 = some (.int (i32 (r544))) := eL558 ▸ jg_eq
    refine jx_ld (pc' := 11) (l' := L558) (st' := [.ref 66]) rfl (jl_aloadn gL558_0) ?_
    refine jx_vr (pc' := 14) (as := []) (st := []) rfl rfl rfl rfl ⟨rfl, rfl, Nat.le_of_ble_eq_true rfl⟩ rfl rfl (c_bad (dd := d) (hd := by omega) (hW := hW546)  (fk := fk2_545) (e_fk := show G542 16 = fk2_545 from (e549))    ) (fun o V' hq => ?_)
    obtain ⟨r559, rfl, rfl, b560, q561⟩ := hq
    refine .inr ⟨_, rfl, ?_⟩
    rcases q561 with ⟨rfl, a562⟩ | ⟨rfl, a563⟩
    · have _q : True := trivial
      refine jx_if_eq (pc' := 17) (tg := 19) rfl rfl rfl (by decide) (by decide) (fun h564 => ?_) (fun h564 => ?_)
      · have _q := h564
        exact absurd h564 (by omega)
      · have _q := h564
        refine jx_ar (pc' := 18) (st' := [.int (i32 (0))]) rfl rfl rfl rfl ?_
        refine jx_rt (v := some (.int (i32 (0)))) rfl rfl rfl rfl rfl rfl ?_
        exact ⟨_, _, _, at0, fk2_545, nd, ln, rfl, rfl, hW546, hF551, hP552, by omega, ((hF547.1 10 rfl).trans (e_at0)), (e549), ((hF547.1 31 rfl).trans (e_nd)), ((hF547.1 9 rfl).trans (e_ln)), by omega, by omega, by omega, by omega, by omega, by first | exact Or.inl (⟨by omega, by omega, by omega⟩) | exact Or.inr ((⟨by omega, by omega, by omega, by omega, by omega⟩))⟩
    · have _q : True := trivial
      exfalso
      omega
  · have _q : True := trivial
    refine jx_ld (pc' := 10) (l' := jSto1 L541 2 (.int (i32 (r544)))) (st' := []) rfl rfl ?_
    obtain ⟨L565, eL565⟩ : ∃ q, q = jSto1 L541 2 (.int (i32 (r544))) := ⟨_, rfl⟩
    rw [← eL565]
    have gL565_0 : jGet L565 0 = some (.ref 66) := eL565 ▸ jg_ne (by decide) gL541_0 rfl
    have gL565_1 : jGet L565 1 = some (.int (i32 (G 12))) := eL565 ▸ jg_ne (by decide) gL541_1 rfl
    have gL565_2 : jGet L565 2 = some (.int (i32 (r544))) := eL565 ▸ jg_eq
    refine jx_ld (pc' := 11) (l' := L565) (st' := [.ref 66]) rfl (jl_aloadn gL565_0) ?_
    refine jx_vr (pc' := 14) (as := []) (st := []) rfl rfl rfl rfl ⟨rfl, rfl, Nat.le_of_ble_eq_true rfl⟩ rfl rfl (c_bad (dd := d) (hd := by omega) (hW := hW546)  (fk := fk2_545) (e_fk := show G542 16 = fk2_545 from (e549))    ) (fun o V' hq => ?_)
    obtain ⟨r566, rfl, rfl, b567, q568⟩ := hq
    refine .inr ⟨_, rfl, ?_⟩
    rcases q568 with ⟨rfl, a569⟩ | ⟨rfl, a570⟩
    · have _q : True := trivial
      exfalso
      omega
    · have _q : True := trivial
      refine jx_if_eq (pc' := 17) (tg := 19) rfl rfl rfl (by decide) (by decide) (fun h571 => ?_) (fun h571 => ?_)
      · have _q := h571
        refine jx_ld (pc' := 20) (l' := L565) (st' := [.ref 66]) rfl (jl_aloadn gL565_0) ?_
        refine jr_get (pc' := 23) (i := 21) (v := .ref 74) rfl rfl (by decide) rfl rfl ?_
        refine jx_ld (pc' := 24) (l' := L565) (st' := [.int (i32 (r544)), .ref 74]) rfl (jl_iloadn gL565_2) ?_
        have b572 : (0 : Int) ≤ A 7 (r544).toNat ∧ A 7 (r544).toNat ≤ 14 := hW.2 7 _
        refine jr_ldv (pc' := 25) (i := 7) (m := 260) (z := r544) (y := A 7 (r544).toNat) rfl (by decide) rfl (by decide) (by omega) (by omega) rfl (show A543 7 (r544).toNat = A 7 (r544).toNat from (congrFun (hF547.2 7 rfl) _)) ?_
        refine jx_ld (pc' := 26) (l' := jSto1 L565 3 (.int (i32 (A 7 (r544).toNat)))) (st' := []) rfl rfl ?_
        obtain ⟨L573, eL573⟩ : ∃ q, q = jSto1 L565 3 (.int (i32 (A 7 (r544).toNat))) := ⟨_, rfl⟩
        rw [← eL573]
        have gL573_0 : jGet L573 0 = some (.ref 66) := eL573 ▸ jg_ne (by decide) gL565_0 rfl
        have gL573_1 : jGet L573 1 = some (.int (i32 (G 12))) := eL573 ▸ jg_ne (by decide) gL565_1 rfl
        have gL573_2 : jGet L573 2 = some (.int (i32 (r544))) := eL573 ▸ jg_ne (by decide) gL565_2 rfl
        have gL573_3 : jGet L573 3 = some (.int (i32 (A 7 (r544).toNat))) := eL573 ▸ jg_eq
        refine jx_ld (pc' := 27) (l' := L573) (st' := [.ref 66]) rfl (jl_aloadn gL573_0) ?_
        refine jx_vr (pc' := 30) (as := []) (st := []) rfl rfl rfl rfl ⟨rfl, rfl, Nat.le_of_ble_eq_true rfl⟩ rfl rfl (c_next (dd := d) (hd := by omega) (hW := hW546)  (ln := ln) (e_ln := show G542 9 = ln from ((hF547.1 9 rfl).trans (e_ln))) (le := le) (e_le := show A543 4 (ln).toNat = le from (congrFun (hF547.2 4 rfl) _).trans (e_le)) (at0 := at0) (e_at0 := show G542 10 = at0 from ((hF547.1 10 rfl).trans (e_at0)))    (p_0 := by omega)) (fun o V' hq => ?_)
        obtain ⟨G574, A575, at2_576, tk2_577, rfl, rfl, hW578, hF579, e580, e581, p582, p583, p584, -⟩ := hq
        have hF586 := Fr_tr hF551 hF579 (Fr_sub (by decide)) (Fr_sub (by decide))
        have hP587 := Pf_f hP552 hF579 (by decide)
        have bat2_576 : (0 : Int) ≤ at2_576 ∧ at2_576 ≤ 3002 := e580 ▸ hW578.1 10
        have ztk2_577 := tz_b tk2_577
        have btk2_577 : (0 : Int) ≤ tk2_577 ∧ tk2_577 ≤ 5 := e581 ▸ hW578.1 11
        refine .inl ⟨rfl, ?_⟩
        refine jx_ld (pc' := 31) (l' := L573) (st' := [.ref 66]) rfl (jl_aloadn gL573_0) ?_
        refine jx_ar (pc' := 33) (st' := [.int (i32 (40)), .ref 66]) rfl rfl rfl rfl ?_
        have b588 : (-2147483648 : Int) ≤ G574 13 ∧ G574 13 ≤ 2147483647 := hW578.1 13
        refine jx_vr (pc' := 36) (as := [.int (i32 (40))]) (st := []) rfl rfl rfl rfl ⟨rfl, rfl, Nat.le_of_ble_eq_true rfl⟩ rfl rfl (c_is (dd := d) (hd := by omega) (hW := hW578) (k := 40) (tk := tk2_577) (e_tk := show G574 11 = tk2_577 from (e581)) (tn := G574 13) (e_tn := show G574 13 = G574 13 from rfl)  (h_k := ⟨(by decide), (by decide)⟩)  ) (fun o V' hq => ?_)
        obtain ⟨r589, rfl, rfl, b590, q591⟩ := hq
        refine .inr ⟨_, rfl, ?_⟩
        rcases q591 with ⟨rfl, a592, a593, a594⟩ | rfl
        · have _q : True := trivial
          refine jx_if_eq (pc' := 39) (tg := 59) rfl rfl rfl (by decide) (by decide) (fun h595 => ?_) (fun h595 => ?_)
          · have _q := h595
            exact absurd h595 (by omega)
          · have _q := h595
            refine jx_ld (pc' := 40) (l' := L573) (st' := [.int (i32 (A 7 (r544).toNat))]) rfl (jl_iloadn gL573_3) ?_
            refine jx_ar (pc' := 42) (st' := [.int (i32 (14)), .int (i32 (A 7 (r544).toNat))]) rfl rfl rfl rfl ?_
            refine jx_icmp_eq (pc' := 45) (tg := 53) rfl rfl rfl (Int.le_trans (by decide : (-2147483648 : Int) ≤ 0) b572.1) (Int.le_trans b572.2 (by decide : (14 : Int) ≤ 2147483647)) (by decide) (by decide) (fun h596 => ?_) (fun h596 => ?_)
            · have _q := h596
              refine jx_ld (pc' := 54) (l' := L573) (st' := [.ref 66]) rfl (jl_aloadn gL573_0) ?_
              refine jx_ld (pc' := 55) (l' := L573) (st' := [.int (i32 (r544)), .ref 66]) rfl (jl_iloadn gL573_2) ?_
              refine jx_vr (pc' := 58) (as := [.int (i32 (r544))]) (st := []) rfl rfl rfl rfl ⟨rfl, rfl, Nat.le_of_ble_eq_true rfl⟩ rfl rfl (c_readCall (dd := d) (hd := by omega) (hW := hW578) (s := r544) (ln := ln) (e_ln := show G574 9 = ln from ((hF579.1 9 rfl).trans ((hF547.1 9 rfl).trans (e_ln)))) (le := le) (e_le := show A575 4 (ln).toNat = le from (congrFun ((hF579.2 4 rfl).trans (hF547.2 4 rfl)) _).trans (e_le)) (at0 := at2_576) (e_at0 := show G574 10 = at2_576 from (e580)) (fk := fk2_545) (e_fk := show G574 16 = fk2_545 from ((hF579.1 16 rfl).trans (e549))) (op0 := op0) (e_op0 := show G574 15 = op0 from ((hF579.1 15 rfl).trans ((hF547.1 15 rfl).trans (e_op0)))) (nd := nd) (e_nd := show G574 31 = nd from ((hF579.1 31 rfl).trans ((hF547.1 31 rfl).trans (e_nd)))) (tk0 := tk2_577) (e_tk0 := show G574 11 = tk2_577 from (e581)) (li := li) (e_li := show G574 3 = li from ((hF579.1 3 rfl).trans ((hF547.1 3 rfl).trans (e_li))))  (h_s := ⟨(Int.le_trans (by decide : (-2147483648 : Int) ≤ -2147483648) b548.1), (Int.le_trans b548.2 (by decide : (2147483647 : Int) ≤ 2147483647))⟩)  (p_0 := by omega) (p_1 := by omega) (p_2 := by omega) (p_3 := by omega) (p_4 := by omega) (p_5 := by omega) (p_6 := by omega)) (fun o V' hq => ?_)
              obtain ⟨G597, A598, r599, at2_600, fk2_601, nd2_602, ln2_603, rfl, rfl, hW604, hF605, hQ606, b607, e608, e609, e610, e611, p612, p613, p614, p615, p616, q617⟩ := hq
              have hF618 := Fr_tr hF586 hF605 (Fr_sub (by decide)) (Fr_sub (by decide))
              have hP619 := Pf_tr hP587 hQ606 (by omega)
              have bat2_600 : (0 : Int) ≤ at2_600 ∧ at2_600 ≤ 3002 := e608 ▸ hW604.1 10
              have bfk2_601 : (0 : Int) ≤ fk2_601 ∧ fk2_601 ≤ 6 := e609 ▸ hW604.1 16
              have bnd2_602 : (0 : Int) ≤ nd2_602 ∧ nd2_602 ≤ 6999 := e610 ▸ hW604.1 31
              have bln2_603 : (0 : Int) ≤ ln2_603 ∧ ln2_603 ≤ 3000 := e611 ▸ hW604.1 9
              refine .inr ⟨_, rfl, ?_⟩
              rcases q617 with ⟨a620, a621, a622⟩ | ⟨a623, a624, a625, a626, a627⟩
              · have _q : True := trivial
                refine jx_rt (v := some (.int (i32 (r599)))) rfl rfl rfl rfl rfl rfl ?_
                exact ⟨_, _, _, at2_600, fk2_601, nd2_602, ln2_603, rfl, rfl, hW604, hF618, hP619, by omega, (e608), (e609), (e610), (e611), by omega, by omega, by omega, by omega, by omega, by first | exact Or.inl (⟨by omega, by omega, by omega⟩) | exact Or.inr ((⟨by omega, by omega, by omega, by omega, by omega⟩))⟩
              · have _q : True := trivial
                refine jx_rt (v := some (.int (i32 (r599)))) rfl rfl rfl rfl rfl rfl ?_
                exact ⟨_, _, _, at2_600, fk2_601, nd2_602, ln2_603, rfl, rfl, hW604, hF618, hP619, by omega, (e608), (e609), (e610), (e611), by omega, by omega, by omega, by omega, by omega, by first | exact Or.inl (⟨by omega, by omega, by omega⟩) | exact Or.inr ((⟨by omega, by omega, by omega, by omega, by omega⟩))⟩
            · have _q := h596
              refine jx_ld (pc' := 46) (l' := L573) (st' := [.ref 66]) rfl (jl_aloadn gL573_0) ?_
              refine jx_ar (pc' := 47) (st' := [.int (i32 (4)), .ref 66]) rfl rfl rfl rfl ?_
              refine jx_ld (pc' := 48) (l' := L573) (st' := [.int (i32 (G 12)), .int (i32 (4)), .ref 66]) rfl (jl_iloadn gL573_1) ?_
              refine jx_vr (pc' := 51) (as := [.int (i32 (4)), .int (i32 (G 12))]) (st := []) rfl rfl rfl rfl ⟨rfl, rfl, Nat.le_of_ble_eq_true rfl⟩ rfl rfl (c_fail (dd := d) (hd := by omega) (hW := hW578) (kind := 4) (place := G 12) (fk := fk2_545) (e_fk := show G574 16 = fk2_545 from ((hF579.1 16 rfl).trans (e549)))  (h_kind := ⟨(by decide), (by decide)⟩) (h_place := ⟨(Int.le_trans (by decide : (-2147483648 : Int) ≤ -3000) b540.1), (Int.le_trans b540.2 (by decide : (3002 : Int) ≤ 2147483647))⟩)  (p_0 := by omega) (p_1 := by omega)) (fun o V' hq => ?_)
              obtain ⟨G628, A629, fk2_630, rfl, rfl, hW631, hF632, e633, p634, -⟩ := hq
              have hF636 := Fr_tr hF586 hF632 (Fr_sub (by decide)) (Fr_sub (by decide))
              have hP637 := Pf_f hP587 hF632 (by decide)
              have bfk2_630 : (0 : Int) ≤ fk2_630 ∧ fk2_630 ≤ 6 := e633 ▸ hW631.1 16
              refine .inl ⟨rfl, ?_⟩
              refine jx_ar (pc' := 52) (st' := [.int (i32 (0))]) rfl rfl rfl rfl ?_
              refine jx_rt (v := some (.int (i32 (0)))) rfl rfl rfl rfl rfl rfl ?_
              exact ⟨_, _, _, at2_576, fk2_630, nd, ln, rfl, rfl, hW631, hF636, hP637, by omega, ((hF632.1 10 rfl).trans (e580)), (e633), ((hF632.1 31 rfl).trans ((hF579.1 31 rfl).trans ((hF547.1 31 rfl).trans (e_nd)))), ((hF632.1 9 rfl).trans ((hF579.1 9 rfl).trans ((hF547.1 9 rfl).trans (e_ln)))), by omega, by omega, by omega, by omega, by omega, by first | exact Or.inl (⟨by omega, by omega, by omega⟩) | exact Or.inr ((⟨by omega, by omega, by omega, by omega, by omega⟩))⟩
        · have _q : True := trivial
          refine jx_if_eq (pc' := 39) (tg := 59) rfl rfl rfl (by decide) (by decide) (fun h638 => ?_) (fun h638 => ?_)
          · have _q := h638
            refine jx_ar (pc' := 60) (st' := [.int (i32 (0))]) rfl rfl rfl rfl ?_
            refine jx_ld (pc' := 62) (l' := jSto1 L573 4 (.int (i32 (0)))) (st' := []) rfl rfl ?_
            obtain ⟨L639, eL639⟩ : ∃ q, q = jSto1 L573 4 (.int (i32 (0))) := ⟨_, rfl⟩
            rw [← eL639]
            have gL639_0 : jGet L639 0 = some (.ref 66) := eL639 ▸ jg_ne (by decide) gL573_0 rfl
            have gL639_1 : jGet L639 1 = some (.int (i32 (G 12))) := eL639 ▸ jg_ne (by decide) gL573_1 rfl
            have gL639_2 : jGet L639 2 = some (.int (i32 (r544))) := eL639 ▸ jg_ne (by decide) gL573_2 rfl
            have gL639_3 : jGet L639 3 = some (.int (i32 (A 7 (r544).toNat))) := eL639 ▸ jg_ne (by decide) gL573_3 rfl
            have gL639_4 : jGet L639 4 = some (.int (i32 (0))) := eL639 ▸ jg_eq
            refine jx_ld (pc' := 63) (l' := L639) (st' := [.ref 66]) rfl (jl_aloadn gL639_0) ?_
            refine jx_ar (pc' := 65) (st' := [.int (i32 (91)), .ref 66]) rfl rfl rfl rfl ?_
            refine jx_vr (pc' := 68) (as := [.int (i32 (91))]) (st := []) rfl rfl rfl rfl ⟨rfl, rfl, Nat.le_of_ble_eq_true rfl⟩ rfl rfl (c_is (dd := d) (hd := by omega) (hW := hW578) (k := 91) (tk := tk2_577) (e_tk := show G574 11 = tk2_577 from (e581)) (tn := G574 13) (e_tn := show G574 13 = G574 13 from rfl)  (h_k := ⟨(by decide), (by decide)⟩)  ) (fun o V' hq => ?_)
            obtain ⟨r640, rfl, rfl, b641, q642⟩ := hq
            refine .inr ⟨_, rfl, ?_⟩
            rcases q642 with ⟨rfl, a643, a644, a645⟩ | rfl
            · have _q : True := trivial
              refine jx_ld (pc' := 70) (l' := jSto1 L639 5 (.int (i32 (1)))) (st' := []) rfl rfl ?_
              obtain ⟨L646, eL646⟩ : ∃ q, q = jSto1 L639 5 (.int (i32 (1))) := ⟨_, rfl⟩
              rw [← eL646]
              have gL646_0 : jGet L646 0 = some (.ref 66) := eL646 ▸ jg_ne (by decide) gL639_0 rfl
              have gL646_1 : jGet L646 1 = some (.int (i32 (G 12))) := eL646 ▸ jg_ne (by decide) gL639_1 rfl
              have gL646_2 : jGet L646 2 = some (.int (i32 (r544))) := eL646 ▸ jg_ne (by decide) gL639_2 rfl
              have gL646_3 : jGet L646 3 = some (.int (i32 (A 7 (r544).toNat))) := eL646 ▸ jg_ne (by decide) gL639_3 rfl
              have gL646_4 : jGet L646 4 = some (.int (i32 (0))) := eL646 ▸ jg_ne (by decide) gL639_4 rfl
              have gL646_5 : jGet L646 5 = some (.int (i32 (1))) := eL646 ▸ jg_eq
              refine jx_ld (pc' := 72) (l' := L646) (st' := [.int (i32 (1))]) rfl (jl_iload gL646_5) ?_
              refine jx_if_eq (pc' := 75) (tg := 110) rfl rfl rfl (by decide) (by decide) (fun h647 => ?_) (fun h647 => ?_)
              · have _q := h647
                exact absurd h647 (by omega)
              · have _q := h647
                refine jx_ld (pc' := 76) (l' := L646) (st' := [.int (i32 (A 7 (r544).toNat))]) rfl (jl_iloadn gL646_3) ?_
                refine jx_st (pc' := 79) (as := [.int (i32 (A 7 (r544).toNat))]) (st := []) rfl rfl ⟨rfl, Nat.le_of_ble_eq_true rfl⟩ rfl rfl rfl (c_isArray (dd := d) (hd := by omega) (k := A 7 (r544).toNat)   (h_k := ⟨(Int.le_trans (by decide : (-2147483648 : Int) ≤ 0) b572.1), (Int.le_trans b572.2 (by decide : (14 : Int) ≤ 2147483647))⟩)  ) (fun o V' hq => ?_)
                obtain ⟨r648, rfl, rfl, b649, q650⟩ := hq
                refine .inr ⟨_, rfl, ?_⟩
                rcases q650 with rfl | rfl
                · have _q : True := trivial
                  refine jx_if_ne (pc' := 82) (tg := 95) rfl rfl rfl (by decide) (by decide) (fun h651 => ?_) (fun h651 => ?_)
                  · have _q := h651
                    refine jx_ld (pc' := 96) (l' := L646) (st' := [.ref 66]) rfl (jl_aloadn gL646_0) ?_
                    refine jx_vr (pc' := 99) (as := []) (st := []) rfl rfl rfl rfl ⟨rfl, rfl, Nat.le_of_ble_eq_true rfl⟩ rfl rfl (c_readIndex (dd := d) (k := 9) (hE := RE_all X 9) (hd := by omega) (hW := hW578)  (ln := ln) (e_ln := show G574 9 = ln from ((hF579.1 9 rfl).trans ((hF547.1 9 rfl).trans (e_ln)))) (le := le) (e_le := show A575 4 (ln).toNat = le from (congrFun ((hF579.2 4 rfl).trans (hF547.2 4 rfl)) _).trans (e_le)) (at0 := at2_576) (e_at0 := show G574 10 = at2_576 from (e580)) (fk := fk2_545) (e_fk := show G574 16 = fk2_545 from ((hF579.1 16 rfl).trans (e549))) (op0 := op0) (e_op0 := show G574 15 = op0 from ((hF579.1 15 rfl).trans ((hF547.1 15 rfl).trans (e_op0)))) (nd := nd) (e_nd := show G574 31 = nd from ((hF579.1 31 rfl).trans ((hF547.1 31 rfl).trans (e_nd)))) (tk0 := tk2_577) (e_tk0 := show G574 11 = tk2_577 from (e581))    (p_0 := by omega) (p_1 := by omega) (p_2 := by omega) (p_3 := by omega) (p_4 := by omega) (p_5 := by omega) (p_6 := by omega) (p_7 := by omega) (p_8 := by omega)) (fun o V' hq => ?_)
                    obtain ⟨G652, A653, r654, at2_655, fk2_656, op2_657, nd2_658, tk2_659, rfl, rfl, hW660, hF661, hQ662, b663, e664, e665, e666, e667, e668, p669, p670, p671, p672, p673, p674, q675⟩ := hq
                    have hF676 := Fr_tr hF586 hF661 (Fr_sub (by decide)) (Fr_sub (by decide))
                    have hP677 := Pf_tr hP587 hQ662 (by omega)
                    have bat2_655 : (0 : Int) ≤ at2_655 ∧ at2_655 ≤ 3002 := e664 ▸ hW660.1 10
                    have bfk2_656 : (0 : Int) ≤ fk2_656 ∧ fk2_656 ≤ 6 := e665 ▸ hW660.1 16
                    have bop2_657 : (-2147483648 : Int) ≤ op2_657 ∧ op2_657 ≤ 2147483647 := e666 ▸ hW660.1 15
                    have bnd2_658 : (0 : Int) ≤ nd2_658 ∧ nd2_658 ≤ 6999 := e667 ▸ hW660.1 31
                    have ztk2_659 := tz_b tk2_659
                    have btk2_659 : (0 : Int) ≤ tk2_659 ∧ tk2_659 ≤ 5 := e668 ▸ hW660.1 11
                    refine .inr ⟨_, rfl, ?_⟩
                    rcases q675 with ⟨a678, a679, a680⟩ | ⟨a681, a682, a683⟩
                    · have _q : True := trivial
                      refine jx_ld (pc' := 101) (l' := jSto1 L646 4 (.int (i32 (r654)))) (st' := []) rfl rfl ?_
                      obtain ⟨L684, eL684⟩ : ∃ q, q = jSto1 L646 4 (.int (i32 (r654))) := ⟨_, rfl⟩
                      rw [← eL684]
                      have gL684_0 : jGet L684 0 = some (.ref 66) := eL684 ▸ jg_ne (by decide) gL646_0 rfl
                      have gL684_1 : jGet L684 1 = some (.int (i32 (G 12))) := eL684 ▸ jg_ne (by decide) gL646_1 rfl
                      have gL684_2 : jGet L684 2 = some (.int (i32 (r544))) := eL684 ▸ jg_ne (by decide) gL646_2 rfl
                      have gL684_3 : jGet L684 3 = some (.int (i32 (A 7 (r544).toNat))) := eL684 ▸ jg_ne (by decide) gL646_3 rfl
                      have gL684_5 : jGet L684 5 = some (.int (i32 (1))) := eL684 ▸ jg_ne (by decide) gL646_5 rfl
                      have gL684_4 : jGet L684 4 = some (.int (i32 (r654))) := eL684 ▸ jg_eq
                      refine jx_ld (pc' := 102) (l' := L684) (st' := [.ref 66]) rfl (jl_aloadn gL684_0) ?_
                      refine jx_vr (pc' := 105) (as := []) (st := []) rfl rfl rfl rfl ⟨rfl, rfl, Nat.le_of_ble_eq_true rfl⟩ rfl rfl (c_bad (dd := d) (hd := by omega) (hW := hW660)  (fk := fk2_656) (e_fk := show G652 16 = fk2_656 from (e665))    ) (fun o V' hq => ?_)
                      obtain ⟨r685, rfl, rfl, b686, q687⟩ := hq
                      refine .inr ⟨_, rfl, ?_⟩
                      rcases q687 with ⟨rfl, a688⟩ | ⟨rfl, a689⟩
                      · have _q : True := trivial
                        refine jx_if_eq (pc' := 108) (tg := 110) rfl rfl rfl (by decide) (by decide) (fun h690 => ?_) (fun h690 => ?_)
                        · have _q := h690
                          exact absurd h690 (by omega)
                        · have _q := h690
                          refine jx_ar (pc' := 109) (st' := [.int (i32 (0))]) rfl rfl rfl rfl ?_
                          refine jx_rt (v := some (.int (i32 (0)))) rfl rfl rfl rfl rfl rfl ?_
                          exact ⟨_, _, _, at2_655, fk2_656, nd2_658, ln, rfl, rfl, hW660, hF676, hP677, by omega, (e664), (e665), (e667), ((hF661.1 9 rfl).trans ((hF579.1 9 rfl).trans ((hF547.1 9 rfl).trans (e_ln)))), by omega, by omega, by omega, by omega, by omega, by first | exact Or.inl (⟨by omega, by omega, by omega⟩) | exact Or.inr ((⟨by omega, by omega, by omega, by omega, by omega⟩))⟩
                      · have _q : True := trivial
                        exfalso
                        omega
                    · have _q : True := trivial
                      refine jx_ld (pc' := 101) (l' := jSto1 L646 4 (.int (i32 (r654)))) (st' := []) rfl rfl ?_
                      obtain ⟨L691, eL691⟩ : ∃ q, q = jSto1 L646 4 (.int (i32 (r654))) := ⟨_, rfl⟩
                      rw [← eL691]
                      have gL691_0 : jGet L691 0 = some (.ref 66) := eL691 ▸ jg_ne (by decide) gL646_0 rfl
                      have gL691_1 : jGet L691 1 = some (.int (i32 (G 12))) := eL691 ▸ jg_ne (by decide) gL646_1 rfl
                      have gL691_2 : jGet L691 2 = some (.int (i32 (r544))) := eL691 ▸ jg_ne (by decide) gL646_2 rfl
                      have gL691_3 : jGet L691 3 = some (.int (i32 (A 7 (r544).toNat))) := eL691 ▸ jg_ne (by decide) gL646_3 rfl
                      have gL691_5 : jGet L691 5 = some (.int (i32 (1))) := eL691 ▸ jg_ne (by decide) gL646_5 rfl
                      have gL691_4 : jGet L691 4 = some (.int (i32 (r654))) := eL691 ▸ jg_eq
                      refine jx_ld (pc' := 102) (l' := L691) (st' := [.ref 66]) rfl (jl_aloadn gL691_0) ?_
                      refine jx_vr (pc' := 105) (as := []) (st := []) rfl rfl rfl rfl ⟨rfl, rfl, Nat.le_of_ble_eq_true rfl⟩ rfl rfl (c_bad (dd := d) (hd := by omega) (hW := hW660)  (fk := fk2_656) (e_fk := show G652 16 = fk2_656 from (e665))    ) (fun o V' hq => ?_)
                      obtain ⟨r692, rfl, rfl, b693, q694⟩ := hq
                      refine .inr ⟨_, rfl, ?_⟩
                      rcases q694 with ⟨rfl, a695⟩ | ⟨rfl, a696⟩
                      · have _q : True := trivial
                        exfalso
                        omega
                      · have _q : True := trivial
                        refine jx_if_eq (pc' := 108) (tg := 110) rfl rfl rfl (by decide) (by decide) (fun h697 => ?_) (fun h697 => ?_)
                        · have _q := h697
                          have z698 := tz_f (tk2_659)
                          exact at_110 L691 G652 A653 (G 12) (r544) (A 7 (r544).toNat) (r654) (1) (at2_655) (tk2_659) (fk2_656) (nd2_658) (op2_657) gL691_0 gL691_1 gL691_2 gL691_3 gL691_4 gL691_5 hW660 hF676 hP677 ((e664)) ((e668)) ((e665)) ((e667)) ((e666)) (((hF661.1 9 rfl).trans ((hF579.1 9 rfl).trans ((hF547.1 9 rfl).trans (e_ln))))) (by omega) (by omega) (by omega) (by omega) (by omega) (by omega) (by omega) (by omega) (by omega) (by omega) (by omega) (by omega) (by omega) (by omega)
                        · have _q := h697
                          exact absurd h697 (by omega)
                  · have _q := h651
                    exact absurd h651 (by omega)
                · have _q : True := trivial
                  refine jx_if_ne (pc' := 82) (tg := 95) rfl rfl rfl (by decide) (by decide) (fun h699 => ?_) (fun h699 => ?_)
                  · have _q := h699
                    exact absurd h699 (by omega)
                  · have _q := h699
                    refine jx_ld (pc' := 83) (l' := L646) (st' := [.int (i32 (A 7 (r544).toNat))]) rfl (jl_iloadn gL646_3) ?_
                    refine jx_ar (pc' := 84) (st' := [.int (i32 (4)), .int (i32 (A 7 (r544).toNat))]) rfl rfl rfl rfl ?_
                    refine jx_icmp_eq (pc' := 87) (tg := 95) rfl rfl rfl (Int.le_trans (by decide : (-2147483648 : Int) ≤ 0) b572.1) (Int.le_trans b572.2 (by decide : (14 : Int) ≤ 2147483647)) (by decide) (by decide) (fun h700 => ?_) (fun h700 => ?_)
                    · have _q := h700
                      refine jx_ld (pc' := 96) (l' := L646) (st' := [.ref 66]) rfl (jl_aloadn gL646_0) ?_
                      refine jx_vr (pc' := 99) (as := []) (st := []) rfl rfl rfl rfl ⟨rfl, rfl, Nat.le_of_ble_eq_true rfl⟩ rfl rfl (c_readIndex (dd := d) (k := 9) (hE := RE_all X 9) (hd := by omega) (hW := hW578)  (ln := ln) (e_ln := show G574 9 = ln from ((hF579.1 9 rfl).trans ((hF547.1 9 rfl).trans (e_ln)))) (le := le) (e_le := show A575 4 (ln).toNat = le from (congrFun ((hF579.2 4 rfl).trans (hF547.2 4 rfl)) _).trans (e_le)) (at0 := at2_576) (e_at0 := show G574 10 = at2_576 from (e580)) (fk := fk2_545) (e_fk := show G574 16 = fk2_545 from ((hF579.1 16 rfl).trans (e549))) (op0 := op0) (e_op0 := show G574 15 = op0 from ((hF579.1 15 rfl).trans ((hF547.1 15 rfl).trans (e_op0)))) (nd := nd) (e_nd := show G574 31 = nd from ((hF579.1 31 rfl).trans ((hF547.1 31 rfl).trans (e_nd)))) (tk0 := tk2_577) (e_tk0 := show G574 11 = tk2_577 from (e581))    (p_0 := by omega) (p_1 := by omega) (p_2 := by omega) (p_3 := by omega) (p_4 := by omega) (p_5 := by omega) (p_6 := by omega) (p_7 := by omega) (p_8 := by omega)) (fun o V' hq => ?_)
                      obtain ⟨G701, A702, r703, at2_704, fk2_705, op2_706, nd2_707, tk2_708, rfl, rfl, hW709, hF710, hQ711, b712, e713, e714, e715, e716, e717, p718, p719, p720, p721, p722, p723, q724⟩ := hq
                      have hF725 := Fr_tr hF586 hF710 (Fr_sub (by decide)) (Fr_sub (by decide))
                      have hP726 := Pf_tr hP587 hQ711 (by omega)
                      have bat2_704 : (0 : Int) ≤ at2_704 ∧ at2_704 ≤ 3002 := e713 ▸ hW709.1 10
                      have bfk2_705 : (0 : Int) ≤ fk2_705 ∧ fk2_705 ≤ 6 := e714 ▸ hW709.1 16
                      have bop2_706 : (-2147483648 : Int) ≤ op2_706 ∧ op2_706 ≤ 2147483647 := e715 ▸ hW709.1 15
                      have bnd2_707 : (0 : Int) ≤ nd2_707 ∧ nd2_707 ≤ 6999 := e716 ▸ hW709.1 31
                      have ztk2_708 := tz_b tk2_708
                      have btk2_708 : (0 : Int) ≤ tk2_708 ∧ tk2_708 ≤ 5 := e717 ▸ hW709.1 11
                      refine .inr ⟨_, rfl, ?_⟩
                      rcases q724 with ⟨a727, a728, a729⟩ | ⟨a730, a731, a732⟩
                      · have _q : True := trivial
                        refine jx_ld (pc' := 101) (l' := jSto1 L646 4 (.int (i32 (r703)))) (st' := []) rfl rfl ?_
                        obtain ⟨L733, eL733⟩ : ∃ q, q = jSto1 L646 4 (.int (i32 (r703))) := ⟨_, rfl⟩
                        rw [← eL733]
                        have gL733_0 : jGet L733 0 = some (.ref 66) := eL733 ▸ jg_ne (by decide) gL646_0 rfl
                        have gL733_1 : jGet L733 1 = some (.int (i32 (G 12))) := eL733 ▸ jg_ne (by decide) gL646_1 rfl
                        have gL733_2 : jGet L733 2 = some (.int (i32 (r544))) := eL733 ▸ jg_ne (by decide) gL646_2 rfl
                        have gL733_3 : jGet L733 3 = some (.int (i32 (A 7 (r544).toNat))) := eL733 ▸ jg_ne (by decide) gL646_3 rfl
                        have gL733_5 : jGet L733 5 = some (.int (i32 (1))) := eL733 ▸ jg_ne (by decide) gL646_5 rfl
                        have gL733_4 : jGet L733 4 = some (.int (i32 (r703))) := eL733 ▸ jg_eq
                        refine jx_ld (pc' := 102) (l' := L733) (st' := [.ref 66]) rfl (jl_aloadn gL733_0) ?_
                        refine jx_vr (pc' := 105) (as := []) (st := []) rfl rfl rfl rfl ⟨rfl, rfl, Nat.le_of_ble_eq_true rfl⟩ rfl rfl (c_bad (dd := d) (hd := by omega) (hW := hW709)  (fk := fk2_705) (e_fk := show G701 16 = fk2_705 from (e714))    ) (fun o V' hq => ?_)
                        obtain ⟨r734, rfl, rfl, b735, q736⟩ := hq
                        refine .inr ⟨_, rfl, ?_⟩
                        rcases q736 with ⟨rfl, a737⟩ | ⟨rfl, a738⟩
                        · have _q : True := trivial
                          refine jx_if_eq (pc' := 108) (tg := 110) rfl rfl rfl (by decide) (by decide) (fun h739 => ?_) (fun h739 => ?_)
                          · have _q := h739
                            exact absurd h739 (by omega)
                          · have _q := h739
                            refine jx_ar (pc' := 109) (st' := [.int (i32 (0))]) rfl rfl rfl rfl ?_
                            refine jx_rt (v := some (.int (i32 (0)))) rfl rfl rfl rfl rfl rfl ?_
                            exact ⟨_, _, _, at2_704, fk2_705, nd2_707, ln, rfl, rfl, hW709, hF725, hP726, by omega, (e713), (e714), (e716), ((hF710.1 9 rfl).trans ((hF579.1 9 rfl).trans ((hF547.1 9 rfl).trans (e_ln)))), by omega, by omega, by omega, by omega, by omega, by first | exact Or.inl (⟨by omega, by omega, by omega⟩) | exact Or.inr ((⟨by omega, by omega, by omega, by omega, by omega⟩))⟩
                        · have _q : True := trivial
                          exfalso
                          omega
                      · have _q : True := trivial
                        refine jx_ld (pc' := 101) (l' := jSto1 L646 4 (.int (i32 (r703)))) (st' := []) rfl rfl ?_
                        obtain ⟨L740, eL740⟩ : ∃ q, q = jSto1 L646 4 (.int (i32 (r703))) := ⟨_, rfl⟩
                        rw [← eL740]
                        have gL740_0 : jGet L740 0 = some (.ref 66) := eL740 ▸ jg_ne (by decide) gL646_0 rfl
                        have gL740_1 : jGet L740 1 = some (.int (i32 (G 12))) := eL740 ▸ jg_ne (by decide) gL646_1 rfl
                        have gL740_2 : jGet L740 2 = some (.int (i32 (r544))) := eL740 ▸ jg_ne (by decide) gL646_2 rfl
                        have gL740_3 : jGet L740 3 = some (.int (i32 (A 7 (r544).toNat))) := eL740 ▸ jg_ne (by decide) gL646_3 rfl
                        have gL740_5 : jGet L740 5 = some (.int (i32 (1))) := eL740 ▸ jg_ne (by decide) gL646_5 rfl
                        have gL740_4 : jGet L740 4 = some (.int (i32 (r703))) := eL740 ▸ jg_eq
                        refine jx_ld (pc' := 102) (l' := L740) (st' := [.ref 66]) rfl (jl_aloadn gL740_0) ?_
                        refine jx_vr (pc' := 105) (as := []) (st := []) rfl rfl rfl rfl ⟨rfl, rfl, Nat.le_of_ble_eq_true rfl⟩ rfl rfl (c_bad (dd := d) (hd := by omega) (hW := hW709)  (fk := fk2_705) (e_fk := show G701 16 = fk2_705 from (e714))    ) (fun o V' hq => ?_)
                        obtain ⟨r741, rfl, rfl, b742, q743⟩ := hq
                        refine .inr ⟨_, rfl, ?_⟩
                        rcases q743 with ⟨rfl, a744⟩ | ⟨rfl, a745⟩
                        · have _q : True := trivial
                          exfalso
                          omega
                        · have _q : True := trivial
                          refine jx_if_eq (pc' := 108) (tg := 110) rfl rfl rfl (by decide) (by decide) (fun h746 => ?_) (fun h746 => ?_)
                          · have _q := h746
                            have z747 := tz_f (tk2_708)
                            exact at_110 L740 G701 A702 (G 12) (r544) (A 7 (r544).toNat) (r703) (1) (at2_704) (tk2_708) (fk2_705) (nd2_707) (op2_706) gL740_0 gL740_1 gL740_2 gL740_3 gL740_4 gL740_5 hW709 hF725 hP726 ((e713)) ((e717)) ((e714)) ((e716)) ((e715)) (((hF710.1 9 rfl).trans ((hF579.1 9 rfl).trans ((hF547.1 9 rfl).trans (e_ln))))) (by omega) (by omega) (by omega) (by omega) (by omega) (by omega) (by omega) (by omega) (by omega) (by omega) (by omega) (by omega) (by omega) (by omega)
                          · have _q := h746
                            exact absurd h746 (by omega)
                    · have _q := h700
                      refine jx_ld (pc' := 88) (l' := L646) (st' := [.ref 66]) rfl (jl_aloadn gL646_0) ?_
                      refine jx_ar (pc' := 89) (st' := [.int (i32 (4)), .ref 66]) rfl rfl rfl rfl ?_
                      refine jx_ld (pc' := 90) (l' := L646) (st' := [.int (i32 (G 12)), .int (i32 (4)), .ref 66]) rfl (jl_iloadn gL646_1) ?_
                      refine jx_vr (pc' := 93) (as := [.int (i32 (4)), .int (i32 (G 12))]) (st := []) rfl rfl rfl rfl ⟨rfl, rfl, Nat.le_of_ble_eq_true rfl⟩ rfl rfl (c_fail (dd := d) (hd := by omega) (hW := hW578) (kind := 4) (place := G 12) (fk := fk2_545) (e_fk := show G574 16 = fk2_545 from ((hF579.1 16 rfl).trans (e549)))  (h_kind := ⟨(by decide), (by decide)⟩) (h_place := ⟨(Int.le_trans (by decide : (-2147483648 : Int) ≤ -3000) b540.1), (Int.le_trans b540.2 (by decide : (3002 : Int) ≤ 2147483647))⟩)  (p_0 := by omega) (p_1 := by omega)) (fun o V' hq => ?_)
                      obtain ⟨G748, A749, fk2_750, rfl, rfl, hW751, hF752, e753, p754, -⟩ := hq
                      have hF756 := Fr_tr hF586 hF752 (Fr_sub (by decide)) (Fr_sub (by decide))
                      have hP757 := Pf_f hP587 hF752 (by decide)
                      have bfk2_750 : (0 : Int) ≤ fk2_750 ∧ fk2_750 ≤ 6 := e753 ▸ hW751.1 16
                      refine .inl ⟨rfl, ?_⟩
                      refine jx_ar (pc' := 94) (st' := [.int (i32 (0))]) rfl rfl rfl rfl ?_
                      refine jx_rt (v := some (.int (i32 (0)))) rfl rfl rfl rfl rfl rfl ?_
                      exact ⟨_, _, _, at2_576, fk2_750, nd, ln, rfl, rfl, hW751, hF756, hP757, by omega, ((hF752.1 10 rfl).trans (e580)), (e753), ((hF752.1 31 rfl).trans ((hF579.1 31 rfl).trans ((hF547.1 31 rfl).trans (e_nd)))), ((hF752.1 9 rfl).trans ((hF579.1 9 rfl).trans ((hF547.1 9 rfl).trans (e_ln)))), by omega, by omega, by omega, by omega, by omega, by first | exact Or.inl (⟨by omega, by omega, by omega⟩) | exact Or.inr ((⟨by omega, by omega, by omega, by omega, by omega⟩))⟩
            · have _q : True := trivial
              refine jx_ld (pc' := 70) (l' := jSto1 L639 5 (.int (i32 (0)))) (st' := []) rfl rfl ?_
              obtain ⟨L758, eL758⟩ : ∃ q, q = jSto1 L639 5 (.int (i32 (0))) := ⟨_, rfl⟩
              rw [← eL758]
              have gL758_0 : jGet L758 0 = some (.ref 66) := eL758 ▸ jg_ne (by decide) gL639_0 rfl
              have gL758_1 : jGet L758 1 = some (.int (i32 (G 12))) := eL758 ▸ jg_ne (by decide) gL639_1 rfl
              have gL758_2 : jGet L758 2 = some (.int (i32 (r544))) := eL758 ▸ jg_ne (by decide) gL639_2 rfl
              have gL758_3 : jGet L758 3 = some (.int (i32 (A 7 (r544).toNat))) := eL758 ▸ jg_ne (by decide) gL639_3 rfl
              have gL758_4 : jGet L758 4 = some (.int (i32 (0))) := eL758 ▸ jg_ne (by decide) gL639_4 rfl
              have gL758_5 : jGet L758 5 = some (.int (i32 (0))) := eL758 ▸ jg_eq
              refine jx_ld (pc' := 72) (l' := L758) (st' := [.int (i32 (0))]) rfl (jl_iload gL758_5) ?_
              refine jx_if_eq (pc' := 75) (tg := 110) rfl rfl rfl (by decide) (by decide) (fun h759 => ?_) (fun h759 => ?_)
              · have _q := h759
                have z760 := tz_f (tk2_577)
                exact at_110 L758 G574 A575 (G 12) (r544) (A 7 (r544).toNat) (0) (0) (at2_576) (tk2_577) (fk2_545) (nd) (op0) gL758_0 gL758_1 gL758_2 gL758_3 gL758_4 gL758_5 hW578 hF586 hP587 ((e580)) ((e581)) (((hF579.1 16 rfl).trans (e549))) (((hF579.1 31 rfl).trans ((hF547.1 31 rfl).trans (e_nd)))) (((hF579.1 15 rfl).trans ((hF547.1 15 rfl).trans (e_op0)))) (((hF579.1 9 rfl).trans ((hF547.1 9 rfl).trans (e_ln)))) (by omega) (by omega) (by omega) (by omega) (by omega) (by omega) (by omega) (by omega) (by omega) (by omega) (by omega) (by omega) (by omega) (by omega)
              · have _q := h759
                exact absurd h759 (by omega)
          · have _q := h638
            exact absurd h638 (by omega)
      · have _q := h571
        exact absurd h571 (by omega)
