set_option maxRecDepth 20000 in
set_option maxHeartbeats 4000000 in
theorem c_readNamed {X : jX} {dd : Nat} {c0 c1 : jC} {G : Nat → Int} {A : Nat → Nat → Int} {T : jH} {ln le at0 fk op0 nd tk0 li : Int} (hd : 72 ≤ dd) (hW : Wk G A) (e_ln : G 9 = ln) (e_le : A 4 (ln).toNat = le) (e_at0 : G 10 = at0) (e_fk : G 16 = fk) (e_op0 : G 15 = op0) (e_nd : G 31 = nd) (e_tk0 : G 11 = tk0) (e_li : G 3 = li) (p_0 : 0 ≤ op0 ∧ op0 ≤ 8) (p_1 : fk = 0) (p_2 : nd ≤ 2 * at0 - tz tk0 + 42) (p_3 : at0 ≤ le) (p_4 : ln < li) (p_5 : tk0 = 1) : wk X dd 304 [.ref 66] (rV c0 c1 G A T) (fun o V' => ∃ (G' : Nat → Int) (A' : Nat → Nat → Int) (r : Int) (at2 : Int) (fk2 : Int) (nd2 : Int) (ln2 : Int), V' = rV c0 c1 G' A' T ∧ o = .inl (some (.int (i32 r))) ∧ Wk G' A' ∧ Fr [9, 10, 11, 12, 13, 14, 15, 16, 17, 18, 31] [15, 16, 17, 18, 19, 20, 21, 22, 24, 28] G A G' A' ∧ ((-2147483648 : Int) ≤ r ∧ r ≤ 2147483647) ∧ G' 10 = at2 ∧ G' 16 = fk2 ∧ G' 31 = nd2 ∧ G' 9 = ln2 ∧ (at0 ≤ at2) ∧ (at2 ≤ le) ∧ (nd ≤ nd2) ∧ (0 ≤ r) ∧ (r ≤ nd2) ∧ (((1 ≤ fk2) ∧ (ln2 = ln) ∧ (nd2 - nd ≤ 2 * at2 - 2 * at0 + 8)) ∨ ((fk2 = 0) ∧ (ln2 = ln + 1) ∧ (nd2 - nd ≤ 2 * at2 - (2 * at0 - tz tk0) + 0)))) := by
  obtain ⟨d, rfl⟩ : ∃ d, dd = d + 1 := ⟨dd - 1, by omega⟩
  refine wk_of (e := jm304) rfl (Nat.le_of_ble_eq_true rfl) ?_
  show wj X d jm304 (0, [(0, .ref 66)], [], rV c0 c1 G A T) _
  have hF0 : Fr [9, 10, 11, 12, 13, 14, 15, 16, 17, 18, 31] [15, 16, 17, 18, 19, 20, 21, 22, 24, 28] G A G A := Fr_rf
  have b_ln : (0 : Int) ≤ ln ∧ ln ≤ 3000 := e_ln ▸ hW.1 9
  have b_le : (0 : Int) ≤ le ∧ le ≤ 3000 := e_le ▸ hW.2 4 _
  have b_at0 : (0 : Int) ≤ at0 ∧ at0 ≤ 3002 := e_at0 ▸ hW.1 10
  have b_fk : (0 : Int) ≤ fk ∧ fk ≤ 6 := e_fk ▸ hW.1 16
  have b_op0 : (-2147483648 : Int) ≤ op0 ∧ op0 ≤ 2147483647 := e_op0 ▸ hW.1 15
  have b_nd : (0 : Int) ≤ nd ∧ nd ≤ 6999 := e_nd ▸ hW.1 31
  have z_tk0 := tz_f tk0
  have b_tk0 : (0 : Int) ≤ tk0 ∧ tk0 ≤ 5 := e_tk0 ▸ hW.1 11
  have b_li : (0 : Int) ≤ li ∧ li ≤ 3000 := e_li ▸ hW.1 3
  have at_307 : ∀ (L : jL) (Gx : Nat → Int) (Ax : Nat → Nat → Int) (out n at1 tk1 fk1 nd1 op1 : Int), jGet L 0 = some (.ref 66) → jGet L 6 = some (.int (i32 out)) → jGet L 7 = some (.int (i32 n)) → Wk Gx Ax → Fr [9, 10, 11, 12, 13, 14, 15, 16, 17, 18, 31] [15, 16, 17, 18, 19, 20, 21, 22, 24, 28] G A Gx Ax → Gx 10 = at1 → Gx 11 = tk1 → Gx 16 = fk1 → Gx 31 = nd1 → Gx 15 = op1 → Gx 9 = ln → ((-2147483648 : Int) ≤ out ∧ out ≤ 2147483647) → ((-2147483648 : Int) ≤ n ∧ n ≤ 2147483647) → (at0 ≤ at1) → (at1 ≤ le) → (nd ≤ nd1) → (op1 = op0) → (fk1 = 0) → (nd1 - nd ≤ (2 * at1 - tz tk1) - (2 * at0 - tz tk0) + 1) → (tz tk1 = 1) → (0 ≤ out ∧ out ≤ 1) → (0 ≤ n ∧ n ≤ 6998 ∧ n ≤ nd1) → wj X d jm304 (307, L, [], rV c0 c1 Gx Ax T) (fun o V' => ∃ (G' : Nat → Int) (A' : Nat → Nat → Int) (r : Int) (at2 : Int) (fk2 : Int) (nd2 : Int) (ln2 : Int), V' = rV c0 c1 G' A' T ∧ o = .inl (some (.int (i32 r))) ∧ Wk G' A' ∧ Fr [9, 10, 11, 12, 13, 14, 15, 16, 17, 18, 31] [15, 16, 17, 18, 19, 20, 21, 22, 24, 28] G A G' A' ∧ ((-2147483648 : Int) ≤ r ∧ r ≤ 2147483647) ∧ G' 10 = at2 ∧ G' 16 = fk2 ∧ G' 31 = nd2 ∧ G' 9 = ln2 ∧ (at0 ≤ at2) ∧ (at2 ≤ le) ∧ (nd ≤ nd2) ∧ (0 ≤ r) ∧ (r ≤ nd2) ∧ (((1 ≤ fk2) ∧ (ln2 = ln) ∧ (nd2 - nd ≤ 2 * at2 - 2 * at0 + 8)) ∨ ((fk2 = 0) ∧ (ln2 = ln + 1) ∧ (nd2 - nd ≤ 2 * at2 - (2 * at0 - tz tk0) + 0)))) := by
    intro L Gx Ax out n at1 tk1 fk1 nd1 op1 gL_0 gL_6 gL_7 hWx hFx ex_at1 ex_tk1 ex_fk1 ex_nd1 ex_op1 fx_9 rx_out rx_n iv_0 iv_1 iv_2 iv_3 iv_4 iv_5 iv_6 iv_7 iv_8
    have b_at1 : (0 : Int) ≤ at1 ∧ at1 ≤ 3002 := ex_at1 ▸ hWx.1 10
    have z_tk1 := tz_f tk1
    have b_tk1 : (0 : Int) ≤ tk1 ∧ tk1 ≤ 5 := ex_tk1 ▸ hWx.1 11
    have b_fk1 : (0 : Int) ≤ fk1 ∧ fk1 ≤ 6 := ex_fk1 ▸ hWx.1 16
    have b_nd1 : (0 : Int) ≤ nd1 ∧ nd1 ≤ 6999 := ex_nd1 ▸ hWx.1 31
    have b_op1 : (-2147483648 : Int) ≤ op1 ∧ op1 ≤ 2147483647 := ex_op1 ▸ hWx.1 15
    refine jx_ld (pc' := 308) (l' := L) (st' := [.ref 66]) rfl (jl_aloadn gL_0) ?_
    refine jx_vr (pc' := 311) (as := []) (st := []) rfl rfl rfl rfl ⟨rfl, rfl, Nat.le_of_ble_eq_true rfl⟩ rfl rfl (c_next (dd := d) (hd := by omega) (hW := hWx)  (ln := ln) (e_ln := show Gx 9 = ln from (fx_9)) (le := le) (e_le := show Ax 4 (ln).toNat = le from (congrFun (hFx.2 4 rfl) _).trans (e_le)) (at0 := at1) (e_at0 := show Gx 10 = at1 from (ex_at1))    (p_0 := by omega)) (fun o V' hq => ?_)
    obtain ⟨G1, A2, at2_3, tk2_4, rfl, rfl, hW5, hF6, e7, e8, p9, p10, p11, -⟩ := hq
    have hF13 := Fr_tr hFx hF6 (Fr_sub (by decide)) (Fr_sub (by decide))
    have bat2_3 : (0 : Int) ≤ at2_3 ∧ at2_3 ≤ 3002 := e7 ▸ hW5.1 10
    have ztk2_4 := tz_b tk2_4
    have btk2_4 : (0 : Int) ≤ tk2_4 ∧ tk2_4 ≤ 5 := e8 ▸ hW5.1 11
    refine .inl ⟨rfl, ?_⟩
    refine jx_ld (pc' := 312) (l' := L) (st' := [.ref 66]) rfl (jl_aloadn gL_0) ?_
    refine jr_get (pc' := 315) (i := 35) (v := .ref 85) rfl rfl (by decide) rfl rfl ?_
    refine jx_ld (pc' := 317) (l' := L) (st' := [.int (i32 (n)), .ref 85]) rfl (jl_iload gL_7) ?_
    refine jx_ld (pc' := 319) (l' := L) (st' := [.int (i32 (out)), .int (i32 (n)), .ref 85]) rfl (jl_iload gL_6) ?_
    refine jx_if_eq (pc' := 322) (tg := 329) rfl rfl rfl (by omega) (by omega) (fun h14 => ?_) (fun h14 => ?_)
    · have _q := h14
      refine jx_ld (pc' := 330) (l' := L) (st' := [.ref 66, .int (i32 (n)), .ref 85]) rfl (jl_aloadn gL_0) ?_
      refine jx_ar (pc' := 331) (st' := [.int (i32 (0)), .ref 66, .int (i32 (n)), .ref 85]) rfl rfl rfl rfl ?_
      refine jx_vr (pc' := 334) (as := [.int (i32 (0))]) (st := [.int (i32 (n)), .ref 85]) rfl rfl rfl rfl ⟨rfl, rfl, Nat.le_of_ble_eq_true rfl⟩ rfl rfl (c_readReference (dd := d) (hd := by omega) (hW := hW5) (ch := 0) (ln := ln) (e_ln := show G1 9 = ln from ((hF6.1 9 rfl).trans (fx_9))) (le := le) (e_le := show A2 4 (ln).toNat = le from (congrFun ((hF6.2 4 rfl).trans (hFx.2 4 rfl)) _).trans (e_le)) (at0 := at2_3) (e_at0 := show G1 10 = at2_3 from (e7)) (fk := fk1) (e_fk := show G1 16 = fk1 from ((hF6.1 16 rfl).trans (ex_fk1))) (op0 := op1) (e_op0 := show G1 15 = op1 from ((hF6.1 15 rfl).trans (ex_op1))) (nd := nd1) (e_nd := show G1 31 = nd1 from ((hF6.1 31 rfl).trans (ex_nd1))) (tk0 := tk2_4) (e_tk0 := show G1 11 = tk2_4 from (e8))  (h_ch := by omega)  (p_0 := by omega) (p_1 := by omega) (p_2 := by omega) (p_3 := by omega) (p_4 := by omega)) (fun o V' hq => ?_)
      obtain ⟨G15, A16, r17, at2_18, fk2_19, op2_20, nd2_21, tk2_22, rfl, rfl, hW23, hF24, b25, e26, e27, e28, e29, e30, p31, p32, p33, p34, p35, p36, q37⟩ := hq
      have hF38 := Fr_tr hF13 hF24 (Fr_sub (by decide)) (Fr_sub (by decide))
      have bat2_18 : (0 : Int) ≤ at2_18 ∧ at2_18 ≤ 3002 := e26 ▸ hW23.1 10
      have bfk2_19 : (0 : Int) ≤ fk2_19 ∧ fk2_19 ≤ 6 := e27 ▸ hW23.1 16
      have bop2_20 : (-2147483648 : Int) ≤ op2_20 ∧ op2_20 ≤ 2147483647 := e28 ▸ hW23.1 15
      have bnd2_21 : (0 : Int) ≤ nd2_21 ∧ nd2_21 ≤ 6999 := e29 ▸ hW23.1 31
      have ztk2_22 := tz_b tk2_22
      have btk2_22 : (0 : Int) ≤ tk2_22 ∧ tk2_22 ≤ 5 := e30 ▸ hW23.1 11
      refine .inr ⟨_, rfl, ?_⟩
      rcases q37 with ⟨a39, a40, a41, a42, a43, a44⟩ | ⟨a45, a46, a47⟩ | ⟨a48, a49, a50⟩
      · have _q : True := trivial
        exfalso
        omega
      · have _q : True := trivial
        refine jr_st (pc' := 335) (i := 18) (m := 7000) (z := n) (y := r17) rfl (by decide) rfl (by decide) (by omega) (by omega) rfl ?_
        have hW52 : Wk G15 (uA A16 18 (n).toNat (r17)) := Wk_a hW23 (show (-2147483648 : Int) ≤ r17 by omega) (show r17 ≤ (2147483647 : Int) by omega)
        have hF53 := Fr_a (z := r17) (k := 18) (n := (n).toNat) hF38 (by decide)
        obtain ⟨A51, eA51⟩ : ∃ q, q = uA A16 18 (n).toNat (r17) := ⟨_, rfl⟩
        rw [← eA51]
        rw [← eA51] at hW52 hF53
        have q54 : A51 18 (n).toNat = r17 := by rw [eA51]; exact uA_eq
        refine jx_ld (pc' := 336) (l' := L) (st' := [.ref 66]) rfl (jl_aloadn gL_0) ?_
        refine jx_vr (pc' := 339) (as := []) (st := []) rfl rfl rfl rfl ⟨rfl, rfl, Nat.le_of_ble_eq_true rfl⟩ rfl rfl (c_endLine (dd := d) (hd := by omega) (hW := hW52)  (ln := ln) (e_ln := show G15 9 = ln from ((hF24.1 9 rfl).trans ((hF6.1 9 rfl).trans (fx_9)))) (li := li) (e_li := show G15 3 = li from ((hF24.1 3 rfl).trans ((hF6.1 3 rfl).trans ((hFx.1 3 rfl).trans (e_li))))) (fk := fk2_19) (e_fk := show G15 16 = fk2_19 from (e27)) (tk0 := tk2_22) (e_tk0 := show G15 11 = tk2_22 from (e30))    (p_0 := by omega)) (fun o V' hq => ?_)
        obtain ⟨G55, A56, ln2_57, fk2_58, rfl, rfl, hW59, hF60, e61, e62, q63⟩ := hq
        have hF64 := Fr_tr hF53 hF60 (Fr_sub (by decide)) (Fr_sub (by decide))
        have bln2_57 : (0 : Int) ≤ ln2_57 ∧ ln2_57 ≤ 3000 := e61 ▸ hW59.1 9
        have bfk2_58 : (0 : Int) ≤ fk2_58 ∧ fk2_58 ≤ 6 := e62 ▸ hW59.1 16
        refine .inl ⟨rfl, ?_⟩
        rcases q63 with ⟨a65, a66, a67, a68, a69⟩ | ⟨a70, a71⟩
        · have _q : True := trivial
          exfalso
          omega
        · have _q : True := trivial
          refine jx_ld (pc' := 341) (l' := L) (st' := [.int (i32 (n))]) rfl (jl_iload gL_7) ?_
          refine jx_rt (v := some (.int (i32 (n)))) rfl rfl rfl rfl rfl rfl ?_
          exact ⟨_, _, _, at2_18, fk2_58, nd2_21, ln2_57, rfl, rfl, hW59, hF64, by omega, ((hF60.1 10 rfl).trans (e26)), (e62), ((hF60.1 31 rfl).trans (e29)), (e61), by omega, by omega, by omega, by omega, by omega, by first | exact Or.inl (⟨by omega, by omega, by omega⟩) | exact Or.inr ((⟨by omega, by omega, by omega⟩))⟩
      · have _q : True := trivial
        refine jr_st (pc' := 335) (i := 18) (m := 7000) (z := n) (y := r17) rfl (by decide) rfl (by decide) (by omega) (by omega) rfl ?_
        have hW73 : Wk G15 (uA A16 18 (n).toNat (r17)) := Wk_a hW23 (show (-2147483648 : Int) ≤ r17 by omega) (show r17 ≤ (2147483647 : Int) by omega)
        have hF74 := Fr_a (z := r17) (k := 18) (n := (n).toNat) hF38 (by decide)
        obtain ⟨A72, eA72⟩ : ∃ q, q = uA A16 18 (n).toNat (r17) := ⟨_, rfl⟩
        rw [← eA72]
        rw [← eA72] at hW73 hF74
        have q75 : A72 18 (n).toNat = r17 := by rw [eA72]; exact uA_eq
        refine jx_ld (pc' := 336) (l' := L) (st' := [.ref 66]) rfl (jl_aloadn gL_0) ?_
        refine jx_vr (pc' := 339) (as := []) (st := []) rfl rfl rfl rfl ⟨rfl, rfl, Nat.le_of_ble_eq_true rfl⟩ rfl rfl (c_endLine (dd := d) (hd := by omega) (hW := hW73)  (ln := ln) (e_ln := show G15 9 = ln from ((hF24.1 9 rfl).trans ((hF6.1 9 rfl).trans (fx_9)))) (li := li) (e_li := show G15 3 = li from ((hF24.1 3 rfl).trans ((hF6.1 3 rfl).trans ((hFx.1 3 rfl).trans (e_li))))) (fk := fk2_19) (e_fk := show G15 16 = fk2_19 from (e27)) (tk0 := tk2_22) (e_tk0 := show G15 11 = tk2_22 from (e30))    (p_0 := by omega)) (fun o V' hq => ?_)
        obtain ⟨G76, A77, ln2_78, fk2_79, rfl, rfl, hW80, hF81, e82, e83, q84⟩ := hq
        have hF85 := Fr_tr hF74 hF81 (Fr_sub (by decide)) (Fr_sub (by decide))
        have bln2_78 : (0 : Int) ≤ ln2_78 ∧ ln2_78 ≤ 3000 := e82 ▸ hW80.1 9
        have bfk2_79 : (0 : Int) ≤ fk2_79 ∧ fk2_79 ≤ 6 := e83 ▸ hW80.1 16
        refine .inl ⟨rfl, ?_⟩
        rcases q84 with ⟨a86, a87, a88, a89, a90⟩ | ⟨a91, a92⟩
        · have _q : True := trivial
          refine jx_ld (pc' := 341) (l' := L) (st' := [.int (i32 (n))]) rfl (jl_iload gL_7) ?_
          refine jx_rt (v := some (.int (i32 (n)))) rfl rfl rfl rfl rfl rfl ?_
          exact ⟨_, _, _, at2_18, fk2_79, nd2_21, ln2_78, rfl, rfl, hW80, hF85, by omega, ((hF81.1 10 rfl).trans (e26)), (e83), ((hF81.1 31 rfl).trans (e29)), (e82), by omega, by omega, by omega, by omega, by omega, by first | exact Or.inl (⟨by omega, by omega, by omega⟩) | exact Or.inr ((⟨by omega, by omega, by omega⟩))⟩
        · have _q : True := trivial
          refine jx_ld (pc' := 341) (l' := L) (st' := [.int (i32 (n))]) rfl (jl_iload gL_7) ?_
          refine jx_rt (v := some (.int (i32 (n)))) rfl rfl rfl rfl rfl rfl ?_
          exact ⟨_, _, _, at2_18, fk2_79, nd2_21, ln2_78, rfl, rfl, hW80, hF85, by omega, ((hF81.1 10 rfl).trans (e26)), (e83), ((hF81.1 31 rfl).trans (e29)), (e82), by omega, by omega, by omega, by omega, by omega, by first | exact Or.inl (⟨by omega, by omega, by omega⟩) | exact Or.inr ((⟨by omega, by omega, by omega⟩))⟩
    · have _q := h14
      refine jx_ld (pc' := 323) (l' := L) (st' := [.ref 66, .int (i32 (n)), .ref 85]) rfl (jl_aloadn gL_0) ?_
      refine jx_vr (pc' := 326) (as := []) (st := [.int (i32 (n)), .ref 85]) rfl rfl rfl rfl ⟨rfl, rfl, Nat.le_of_ble_eq_true rfl⟩ rfl rfl (RE_all X 9 (dd := d) (hd := by omega) (hW := hW5)  (ln := ln) (e_ln := show G1 9 = ln from ((hF6.1 9 rfl).trans (fx_9))) (le := le) (e_le := show A2 4 (ln).toNat = le from (congrFun ((hF6.2 4 rfl).trans (hFx.2 4 rfl)) _).trans (e_le)) (at0 := at2_3) (e_at0 := show G1 10 = at2_3 from (e7)) (fk := fk1) (e_fk := show G1 16 = fk1 from ((hF6.1 16 rfl).trans (ex_fk1))) (op0 := op1) (e_op0 := show G1 15 = op1 from ((hF6.1 15 rfl).trans (ex_op1))) (nd := nd1) (e_nd := show G1 31 = nd1 from ((hF6.1 31 rfl).trans (ex_nd1))) (tk0 := tk2_4) (e_tk0 := show G1 11 = tk2_4 from (e8))    (p_0 := by omega) (p_1 := by omega) (p_2 := by omega) (p_3 := by omega) (p_4 := by omega) (p_5 := by omega)) (fun o V' hq => ?_)
      obtain ⟨G93, A94, r95, at2_96, fk2_97, op2_98, nd2_99, tk2_100, rfl, rfl, hW101, hF102, b103, e104, e105, e106, e107, e108, p109, p110, p111, p112, p113, p114, q115⟩ := hq
      have hF116 := Fr_tr hF13 hF102 (Fr_sub (by decide)) (Fr_sub (by decide))
      have bat2_96 : (0 : Int) ≤ at2_96 ∧ at2_96 ≤ 3002 := e104 ▸ hW101.1 10
      have bfk2_97 : (0 : Int) ≤ fk2_97 ∧ fk2_97 ≤ 6 := e105 ▸ hW101.1 16
      have bop2_98 : (-2147483648 : Int) ≤ op2_98 ∧ op2_98 ≤ 2147483647 := e106 ▸ hW101.1 15
      have bnd2_99 : (0 : Int) ≤ nd2_99 ∧ nd2_99 ≤ 6999 := e107 ▸ hW101.1 31
      have ztk2_100 := tz_b tk2_100
      have btk2_100 : (0 : Int) ≤ tk2_100 ∧ tk2_100 ≤ 5 := e108 ▸ hW101.1 11
      refine .inr ⟨_, rfl, ?_⟩
      rcases q115 with ⟨a117, a118, a119, a120, a121, a122⟩ | ⟨a123, a124, a125⟩ | ⟨a126, a127, a128⟩
      · have _q : True := trivial
        exfalso
        omega
      · have _q : True := trivial
        refine jx_go (tg := 334) rfl rfl ?_
        refine jr_st (pc' := 335) (i := 18) (m := 7000) (z := n) (y := r95) rfl (by decide) rfl (by decide) (by omega) (by omega) rfl ?_
        have hW130 : Wk G93 (uA A94 18 (n).toNat (r95)) := Wk_a hW101 (show (-2147483648 : Int) ≤ r95 by omega) (show r95 ≤ (2147483647 : Int) by omega)
        have hF131 := Fr_a (z := r95) (k := 18) (n := (n).toNat) hF116 (by decide)
        obtain ⟨A129, eA129⟩ : ∃ q, q = uA A94 18 (n).toNat (r95) := ⟨_, rfl⟩
        rw [← eA129]
        rw [← eA129] at hW130 hF131
        have q132 : A129 18 (n).toNat = r95 := by rw [eA129]; exact uA_eq
        refine jx_ld (pc' := 336) (l' := L) (st' := [.ref 66]) rfl (jl_aloadn gL_0) ?_
        refine jx_vr (pc' := 339) (as := []) (st := []) rfl rfl rfl rfl ⟨rfl, rfl, Nat.le_of_ble_eq_true rfl⟩ rfl rfl (c_endLine (dd := d) (hd := by omega) (hW := hW130)  (ln := ln) (e_ln := show G93 9 = ln from ((hF102.1 9 rfl).trans ((hF6.1 9 rfl).trans (fx_9)))) (li := li) (e_li := show G93 3 = li from ((hF102.1 3 rfl).trans ((hF6.1 3 rfl).trans ((hFx.1 3 rfl).trans (e_li))))) (fk := fk2_97) (e_fk := show G93 16 = fk2_97 from (e105)) (tk0 := tk2_100) (e_tk0 := show G93 11 = tk2_100 from (e108))    (p_0 := by omega)) (fun o V' hq => ?_)
        obtain ⟨G133, A134, ln2_135, fk2_136, rfl, rfl, hW137, hF138, e139, e140, q141⟩ := hq
        have hF142 := Fr_tr hF131 hF138 (Fr_sub (by decide)) (Fr_sub (by decide))
        have bln2_135 : (0 : Int) ≤ ln2_135 ∧ ln2_135 ≤ 3000 := e139 ▸ hW137.1 9
        have bfk2_136 : (0 : Int) ≤ fk2_136 ∧ fk2_136 ≤ 6 := e140 ▸ hW137.1 16
        refine .inl ⟨rfl, ?_⟩
        rcases q141 with ⟨a143, a144, a145, a146, a147⟩ | ⟨a148, a149⟩
        · have _q : True := trivial
          exfalso
          omega
        · have _q : True := trivial
          refine jx_ld (pc' := 341) (l' := L) (st' := [.int (i32 (n))]) rfl (jl_iload gL_7) ?_
          refine jx_rt (v := some (.int (i32 (n)))) rfl rfl rfl rfl rfl rfl ?_
          exact ⟨_, _, _, at2_96, fk2_136, nd2_99, ln2_135, rfl, rfl, hW137, hF142, by omega, ((hF138.1 10 rfl).trans (e104)), (e140), ((hF138.1 31 rfl).trans (e107)), (e139), by omega, by omega, by omega, by omega, by omega, by first | exact Or.inl (⟨by omega, by omega, by omega⟩) | exact Or.inr ((⟨by omega, by omega, by omega⟩))⟩
      · have _q : True := trivial
        refine jx_go (tg := 334) rfl rfl ?_
        refine jr_st (pc' := 335) (i := 18) (m := 7000) (z := n) (y := r95) rfl (by decide) rfl (by decide) (by omega) (by omega) rfl ?_
        have hW151 : Wk G93 (uA A94 18 (n).toNat (r95)) := Wk_a hW101 (show (-2147483648 : Int) ≤ r95 by omega) (show r95 ≤ (2147483647 : Int) by omega)
        have hF152 := Fr_a (z := r95) (k := 18) (n := (n).toNat) hF116 (by decide)
        obtain ⟨A150, eA150⟩ : ∃ q, q = uA A94 18 (n).toNat (r95) := ⟨_, rfl⟩
        rw [← eA150]
        rw [← eA150] at hW151 hF152
        have q153 : A150 18 (n).toNat = r95 := by rw [eA150]; exact uA_eq
        refine jx_ld (pc' := 336) (l' := L) (st' := [.ref 66]) rfl (jl_aloadn gL_0) ?_
        refine jx_vr (pc' := 339) (as := []) (st := []) rfl rfl rfl rfl ⟨rfl, rfl, Nat.le_of_ble_eq_true rfl⟩ rfl rfl (c_endLine (dd := d) (hd := by omega) (hW := hW151)  (ln := ln) (e_ln := show G93 9 = ln from ((hF102.1 9 rfl).trans ((hF6.1 9 rfl).trans (fx_9)))) (li := li) (e_li := show G93 3 = li from ((hF102.1 3 rfl).trans ((hF6.1 3 rfl).trans ((hFx.1 3 rfl).trans (e_li))))) (fk := fk2_97) (e_fk := show G93 16 = fk2_97 from (e105)) (tk0 := tk2_100) (e_tk0 := show G93 11 = tk2_100 from (e108))    (p_0 := by omega)) (fun o V' hq => ?_)
        obtain ⟨G154, A155, ln2_156, fk2_157, rfl, rfl, hW158, hF159, e160, e161, q162⟩ := hq
        have hF163 := Fr_tr hF152 hF159 (Fr_sub (by decide)) (Fr_sub (by decide))
        have bln2_156 : (0 : Int) ≤ ln2_156 ∧ ln2_156 ≤ 3000 := e160 ▸ hW158.1 9
        have bfk2_157 : (0 : Int) ≤ fk2_157 ∧ fk2_157 ≤ 6 := e161 ▸ hW158.1 16
        refine .inl ⟨rfl, ?_⟩
        rcases q162 with ⟨a164, a165, a166, a167, a168⟩ | ⟨a169, a170⟩
        · have _q : True := trivial
          refine jx_ld (pc' := 341) (l' := L) (st' := [.int (i32 (n))]) rfl (jl_iload gL_7) ?_
          refine jx_rt (v := some (.int (i32 (n)))) rfl rfl rfl rfl rfl rfl ?_
          exact ⟨_, _, _, at2_96, fk2_157, nd2_99, ln2_156, rfl, rfl, hW158, hF163, by omega, ((hF159.1 10 rfl).trans (e104)), (e161), ((hF159.1 31 rfl).trans (e107)), (e160), by omega, by omega, by omega, by omega, by omega, by first | exact Or.inl (⟨by omega, by omega, by omega⟩) | exact Or.inr ((⟨by omega, by omega, by omega⟩))⟩
        · have _q : True := trivial
          refine jx_ld (pc' := 341) (l' := L) (st' := [.int (i32 (n))]) rfl (jl_iload gL_7) ?_
          refine jx_rt (v := some (.int (i32 (n)))) rfl rfl rfl rfl rfl rfl ?_
          exact ⟨_, _, _, at2_96, fk2_157, nd2_99, ln2_156, rfl, rfl, hW158, hF163, by omega, ((hF159.1 10 rfl).trans (e104)), (e161), ((hF159.1 31 rfl).trans (e107)), (e160), by omega, by omega, by omega, by omega, by omega, by first | exact Or.inl (⟨by omega, by omega, by omega⟩) | exact Or.inr ((⟨by omega, by omega, by omega⟩))⟩
  have at_259 : ∀ (L : jL) (Gx : Nat → Int) (Ax : Nat → Nat → Int) (s ix row at1 tk1 fk1 nd1 op1 : Int), jGet L 0 = some (.ref 66) → jGet L 2 = some (.int (i32 s)) → jGet L 4 = some (.int (i32 ix)) → jGet L 5 = some (.int (i32 row)) → Wk Gx Ax → Fr [9, 10, 11, 12, 13, 14, 15, 16, 17, 18, 31] [15, 16, 17, 18, 19, 20, 21, 22, 24, 28] G A Gx Ax → Gx 10 = at1 → Gx 11 = tk1 → Gx 16 = fk1 → Gx 31 = nd1 → Gx 15 = op1 → Gx 9 = ln → ((-2147483648 : Int) ≤ s ∧ s ≤ 2147483647) → ((-2147483648 : Int) ≤ ix ∧ ix ≤ 2147483647) → ((-2147483648 : Int) ≤ row ∧ row ≤ 2147483647) → (at0 ≤ at1) → (at1 ≤ le) → (nd ≤ nd1) → (op1 = op0) → (fk1 = 0) → (nd1 - nd ≤ (2 * at1 - tz tk1) - (2 * at0 - tz tk0) - 1) → (tz tk1 = 1) → (0 ≤ row ∧ row ≤ 1) → wj X d jm304 (259, L, [], rV c0 c1 Gx Ax T) (fun o V' => ∃ (G' : Nat → Int) (A' : Nat → Nat → Int) (r : Int) (at2 : Int) (fk2 : Int) (nd2 : Int) (ln2 : Int), V' = rV c0 c1 G' A' T ∧ o = .inl (some (.int (i32 r))) ∧ Wk G' A' ∧ Fr [9, 10, 11, 12, 13, 14, 15, 16, 17, 18, 31] [15, 16, 17, 18, 19, 20, 21, 22, 24, 28] G A G' A' ∧ ((-2147483648 : Int) ≤ r ∧ r ≤ 2147483647) ∧ G' 10 = at2 ∧ G' 16 = fk2 ∧ G' 31 = nd2 ∧ G' 9 = ln2 ∧ (at0 ≤ at2) ∧ (at2 ≤ le) ∧ (nd ≤ nd2) ∧ (0 ≤ r) ∧ (r ≤ nd2) ∧ (((1 ≤ fk2) ∧ (ln2 = ln) ∧ (nd2 - nd ≤ 2 * at2 - 2 * at0 + 8)) ∨ ((fk2 = 0) ∧ (ln2 = ln + 1) ∧ (nd2 - nd ≤ 2 * at2 - (2 * at0 - tz tk0) + 0)))) := by
    intro L Gx Ax s ix row at1 tk1 fk1 nd1 op1 gL_0 gL_2 gL_4 gL_5 hWx hFx ex_at1 ex_tk1 ex_fk1 ex_nd1 ex_op1 fx_9 rx_s rx_ix rx_row iv_0 iv_1 iv_2 iv_3 iv_4 iv_5 iv_6 iv_7
    have b_at1 : (0 : Int) ≤ at1 ∧ at1 ≤ 3002 := ex_at1 ▸ hWx.1 10
    have z_tk1 := tz_f tk1
    have b_tk1 : (0 : Int) ≤ tk1 ∧ tk1 ≤ 5 := ex_tk1 ▸ hWx.1 11
    have b_fk1 : (0 : Int) ≤ fk1 ∧ fk1 ≤ 6 := ex_fk1 ▸ hWx.1 16
    have b_nd1 : (0 : Int) ≤ nd1 ∧ nd1 ≤ 6999 := ex_nd1 ▸ hWx.1 31
    have b_op1 : (-2147483648 : Int) ≤ op1 ∧ op1 ≤ 2147483647 := ex_op1 ▸ hWx.1 15
    refine jx_ld (pc' := 260) (l' := L) (st' := [.ref 66]) rfl (jl_aloadn gL_0) ?_
    refine jx_ar (pc' := 262) (st' := [.int (i32 (33)), .ref 66]) rfl rfl rfl rfl ?_
    have b171 : (-2147483648 : Int) ≤ Gx 13 ∧ Gx 13 ≤ 2147483647 := hWx.1 13
    refine jx_vr (pc' := 265) (as := [.int (i32 (33))]) (st := []) rfl rfl rfl rfl ⟨rfl, rfl, Nat.le_of_ble_eq_true rfl⟩ rfl rfl (c_is (dd := d) (hd := by omega) (hW := hWx) (k := 33) (tk := tk1) (e_tk := show Gx 11 = tk1 from (ex_tk1)) (tn := Gx 13) (e_tn := show Gx 13 = Gx 13 from rfl)  (h_k := by omega)  ) (fun o V' hq => ?_)
    obtain ⟨r172, rfl, rfl, b173, q174⟩ := hq
    refine .inr ⟨_, rfl, ?_⟩
    rcases q174 with ⟨rfl, a175, a176, a177⟩ | rfl
    · have _q : True := trivial
      refine jx_ld (pc' := 267) (l' := jSto1 L 6 (.int (i32 (1)))) (st' := []) rfl rfl ?_
      obtain ⟨L178, eL178⟩ : ∃ q, q = jSto1 L 6 (.int (i32 (1))) := ⟨_, rfl⟩
      rw [← eL178]
      have gL178_0 : jGet L178 0 = some (.ref 66) := eL178 ▸ jg_ne (by decide) gL_0 rfl
      have gL178_2 : jGet L178 2 = some (.int (i32 (s))) := eL178 ▸ jg_ne (by decide) gL_2 rfl
      have gL178_4 : jGet L178 4 = some (.int (i32 (ix))) := eL178 ▸ jg_ne (by decide) gL_4 rfl
      have gL178_5 : jGet L178 5 = some (.int (i32 (row))) := eL178 ▸ jg_ne (by decide) gL_5 rfl
      have gL178_6 : jGet L178 6 = some (.int (i32 (1))) := eL178 ▸ jg_eq
      refine jx_ld (pc' := 268) (l' := L178) (st' := [.ref 66]) rfl (jl_aloadn gL178_0) ?_
      refine jx_ld (pc' := 270) (l' := L178) (st' := [.int (i32 (1)), .ref 66]) rfl (jl_iload gL178_6) ?_
      refine jx_if_eq (pc' := 273) (tg := 278) rfl rfl rfl (by omega) (by omega) (fun h179 => ?_) (fun h179 => ?_)
      · have _q := h179
        exact absurd h179 (by omega)
      · have _q := h179
        refine jx_ar (pc' := 275) (st' := [.int (i32 (23)), .ref 66]) rfl rfl rfl rfl ?_
        refine jx_go (tg := 280) rfl rfl ?_
        refine jx_ld (pc' := 281) (l' := L178) (st' := [.ref 66, .int (i32 (23)), .ref 66]) rfl (jl_aloadn gL178_0) ?_
        refine jx_ld (pc' := 283) (l' := L178) (st' := [.int (i32 (row)), .ref 66, .int (i32 (23)), .ref 66]) rfl (jl_iload gL178_5) ?_
        refine jx_if_eq (pc' := 286) (tg := 290) rfl rfl rfl (by omega) (by omega) (fun h180 => ?_) (fun h180 => ?_)
        · have _q := h180
          refine jx_ar (pc' := 291) (st' := [.int (i32 (2)), .ref 66, .int (i32 (23)), .ref 66]) rfl rfl rfl rfl ?_
          refine jx_ld (pc' := 292) (l' := L178) (st' := [.int (i32 (s)), .int (i32 (2)), .ref 66, .int (i32 (23)), .ref 66]) rfl (jl_iloadn gL178_2) ?_
          refine jx_ld (pc' := 294) (l' := L178) (st' := [.int (i32 (ix)), .int (i32 (s)), .int (i32 (2)), .ref 66, .int (i32 (23)), .ref 66]) rfl (jl_iload gL178_4) ?_
          refine jx_ar (pc' := 295) (st' := [.int (i32 (0)), .int (i32 (ix)), .int (i32 (s)), .int (i32 (2)), .ref 66, .int (i32 (23)), .ref 66]) rfl rfl rfl rfl ?_
          refine jx_ar (pc' := 296) (st' := [.int (i32 (0)), .int (i32 (0)), .int (i32 (ix)), .int (i32 (s)), .int (i32 (2)), .ref 66, .int (i32 (23)), .ref 66]) rfl rfl rfl rfl ?_
          refine jx_vr (pc' := 299) (as := [.int (i32 (2)), .int (i32 (s)), .int (i32 (ix)), .int (i32 (0)), .int (i32 (0))]) (st := [.int (i32 (23)), .ref 66]) rfl rfl rfl rfl ⟨rfl, rfl, Nat.le_of_ble_eq_true rfl⟩ rfl rfl (c_node (dd := d) (hd := by omega) (hW := hWx) (kind := 2) (a := s) (b := ix) (c := 0) (e := 0) (nd := nd1) (e_nd := show Gx 31 = nd1 from (ex_nd1))  (h_kind := by omega) (h_a := by omega) (h_b := by omega) (h_c := by omega) (h_e := by omega)  (p_0 := by omega) (p_1 := by omega)) (fun o V' hq => ?_)
          obtain ⟨G181, A182, r183, nd2_184, rfl, rfl, hW185, hF186, b187, e188, p189, p190, -⟩ := hq
          have hF192 := Fr_tr hFx hF186 (Fr_sub (by decide)) (Fr_sub (by decide))
          have bnd2_184 : (0 : Int) ≤ nd2_184 ∧ nd2_184 ≤ 6999 := e188 ▸ hW185.1 31
          refine .inr ⟨_, rfl, ?_⟩
          refine jx_ar (pc' := 300) (st' := [.int (i32 (0)), .int (i32 (r183)), .int (i32 (23)), .ref 66]) rfl rfl rfl rfl ?_
          refine jx_ar (pc' := 301) (st' := [.int (i32 (0)), .int (i32 (0)), .int (i32 (r183)), .int (i32 (23)), .ref 66]) rfl rfl rfl rfl ?_
          refine jx_ar (pc' := 302) (st' := [.int (i32 (0)), .int (i32 (0)), .int (i32 (0)), .int (i32 (r183)), .int (i32 (23)), .ref 66]) rfl rfl rfl rfl ?_
          refine jx_vr (pc' := 305) (as := [.int (i32 (23)), .int (i32 (r183)), .int (i32 (0)), .int (i32 (0)), .int (i32 (0))]) (st := []) rfl rfl rfl rfl ⟨rfl, rfl, Nat.le_of_ble_eq_true rfl⟩ rfl rfl (c_node (dd := d) (hd := by omega) (hW := hW185) (kind := 23) (a := r183) (b := 0) (c := 0) (e := 0) (nd := nd2_184) (e_nd := show G181 31 = nd2_184 from (e188))  (h_kind := by omega) (h_a := by omega) (h_b := by omega) (h_c := by omega) (h_e := by omega)  (p_0 := by omega) (p_1 := by omega)) (fun o V' hq => ?_)
          obtain ⟨G193, A194, r195, nd2_196, rfl, rfl, hW197, hF198, b199, e200, p201, p202, -⟩ := hq
          have hF204 := Fr_tr hF192 hF198 (Fr_sub (by decide)) (Fr_sub (by decide))
          have bnd2_196 : (0 : Int) ≤ nd2_196 ∧ nd2_196 ≤ 6999 := e200 ▸ hW197.1 31
          refine .inr ⟨_, rfl, ?_⟩
          refine jx_ld (pc' := 307) (l' := jSto1 L178 7 (.int (i32 (r195)))) (st' := []) rfl rfl ?_
          obtain ⟨L205, eL205⟩ : ∃ q, q = jSto1 L178 7 (.int (i32 (r195))) := ⟨_, rfl⟩
          rw [← eL205]
          have gL205_0 : jGet L205 0 = some (.ref 66) := eL205 ▸ jg_ne (by decide) gL178_0 rfl
          have gL205_2 : jGet L205 2 = some (.int (i32 (s))) := eL205 ▸ jg_ne (by decide) gL178_2 rfl
          have gL205_4 : jGet L205 4 = some (.int (i32 (ix))) := eL205 ▸ jg_ne (by decide) gL178_4 rfl
          have gL205_5 : jGet L205 5 = some (.int (i32 (row))) := eL205 ▸ jg_ne (by decide) gL178_5 rfl
          have gL205_6 : jGet L205 6 = some (.int (i32 (1))) := eL205 ▸ jg_ne (by decide) gL178_6 rfl
          have gL205_7 : jGet L205 7 = some (.int (i32 (r195))) := eL205 ▸ jg_eq
          have z206 := tz_f (tk1)
          exact at_307 L205 G193 A194 (1) (r195) (at1) (tk1) (fk1) (nd2_196) (op1) gL205_0 gL205_6 gL205_7 hW197 hF204 (((hF198.1 10 rfl).trans ((hF186.1 10 rfl).trans (ex_at1)))) (((hF198.1 11 rfl).trans ((hF186.1 11 rfl).trans (ex_tk1)))) (((hF198.1 16 rfl).trans ((hF186.1 16 rfl).trans (ex_fk1)))) ((e200)) (((hF198.1 15 rfl).trans ((hF186.1 15 rfl).trans (ex_op1)))) (((hF198.1 9 rfl).trans ((hF186.1 9 rfl).trans (fx_9)))) (by omega) (by omega) (by omega) (by omega) (by omega) (by omega) (by omega) (by omega) (by omega) (by omega) (by omega)
        · have _q := h180
          refine jx_ar (pc' := 287) (st' := [.int (i32 (3)), .ref 66, .int (i32 (23)), .ref 66]) rfl rfl rfl rfl ?_
          refine jx_go (tg := 291) rfl rfl ?_
          refine jx_ld (pc' := 292) (l' := L178) (st' := [.int (i32 (s)), .int (i32 (3)), .ref 66, .int (i32 (23)), .ref 66]) rfl (jl_iloadn gL178_2) ?_
          refine jx_ld (pc' := 294) (l' := L178) (st' := [.int (i32 (ix)), .int (i32 (s)), .int (i32 (3)), .ref 66, .int (i32 (23)), .ref 66]) rfl (jl_iload gL178_4) ?_
          refine jx_ar (pc' := 295) (st' := [.int (i32 (0)), .int (i32 (ix)), .int (i32 (s)), .int (i32 (3)), .ref 66, .int (i32 (23)), .ref 66]) rfl rfl rfl rfl ?_
          refine jx_ar (pc' := 296) (st' := [.int (i32 (0)), .int (i32 (0)), .int (i32 (ix)), .int (i32 (s)), .int (i32 (3)), .ref 66, .int (i32 (23)), .ref 66]) rfl rfl rfl rfl ?_
          refine jx_vr (pc' := 299) (as := [.int (i32 (3)), .int (i32 (s)), .int (i32 (ix)), .int (i32 (0)), .int (i32 (0))]) (st := [.int (i32 (23)), .ref 66]) rfl rfl rfl rfl ⟨rfl, rfl, Nat.le_of_ble_eq_true rfl⟩ rfl rfl (c_node (dd := d) (hd := by omega) (hW := hWx) (kind := 3) (a := s) (b := ix) (c := 0) (e := 0) (nd := nd1) (e_nd := show Gx 31 = nd1 from (ex_nd1))  (h_kind := by omega) (h_a := by omega) (h_b := by omega) (h_c := by omega) (h_e := by omega)  (p_0 := by omega) (p_1 := by omega)) (fun o V' hq => ?_)
          obtain ⟨G207, A208, r209, nd2_210, rfl, rfl, hW211, hF212, b213, e214, p215, p216, -⟩ := hq
          have hF218 := Fr_tr hFx hF212 (Fr_sub (by decide)) (Fr_sub (by decide))
          have bnd2_210 : (0 : Int) ≤ nd2_210 ∧ nd2_210 ≤ 6999 := e214 ▸ hW211.1 31
          refine .inr ⟨_, rfl, ?_⟩
          refine jx_ar (pc' := 300) (st' := [.int (i32 (0)), .int (i32 (r209)), .int (i32 (23)), .ref 66]) rfl rfl rfl rfl ?_
          refine jx_ar (pc' := 301) (st' := [.int (i32 (0)), .int (i32 (0)), .int (i32 (r209)), .int (i32 (23)), .ref 66]) rfl rfl rfl rfl ?_
          refine jx_ar (pc' := 302) (st' := [.int (i32 (0)), .int (i32 (0)), .int (i32 (0)), .int (i32 (r209)), .int (i32 (23)), .ref 66]) rfl rfl rfl rfl ?_
          refine jx_vr (pc' := 305) (as := [.int (i32 (23)), .int (i32 (r209)), .int (i32 (0)), .int (i32 (0)), .int (i32 (0))]) (st := []) rfl rfl rfl rfl ⟨rfl, rfl, Nat.le_of_ble_eq_true rfl⟩ rfl rfl (c_node (dd := d) (hd := by omega) (hW := hW211) (kind := 23) (a := r209) (b := 0) (c := 0) (e := 0) (nd := nd2_210) (e_nd := show G207 31 = nd2_210 from (e214))  (h_kind := by omega) (h_a := by omega) (h_b := by omega) (h_c := by omega) (h_e := by omega)  (p_0 := by omega) (p_1 := by omega)) (fun o V' hq => ?_)
          obtain ⟨G219, A220, r221, nd2_222, rfl, rfl, hW223, hF224, b225, e226, p227, p228, -⟩ := hq
          have hF230 := Fr_tr hF218 hF224 (Fr_sub (by decide)) (Fr_sub (by decide))
          have bnd2_222 : (0 : Int) ≤ nd2_222 ∧ nd2_222 ≤ 6999 := e226 ▸ hW223.1 31
          refine .inr ⟨_, rfl, ?_⟩
          refine jx_ld (pc' := 307) (l' := jSto1 L178 7 (.int (i32 (r221)))) (st' := []) rfl rfl ?_
          obtain ⟨L231, eL231⟩ : ∃ q, q = jSto1 L178 7 (.int (i32 (r221))) := ⟨_, rfl⟩
          rw [← eL231]
          have gL231_0 : jGet L231 0 = some (.ref 66) := eL231 ▸ jg_ne (by decide) gL178_0 rfl
          have gL231_2 : jGet L231 2 = some (.int (i32 (s))) := eL231 ▸ jg_ne (by decide) gL178_2 rfl
          have gL231_4 : jGet L231 4 = some (.int (i32 (ix))) := eL231 ▸ jg_ne (by decide) gL178_4 rfl
          have gL231_5 : jGet L231 5 = some (.int (i32 (row))) := eL231 ▸ jg_ne (by decide) gL178_5 rfl
          have gL231_6 : jGet L231 6 = some (.int (i32 (1))) := eL231 ▸ jg_ne (by decide) gL178_6 rfl
          have gL231_7 : jGet L231 7 = some (.int (i32 (r221))) := eL231 ▸ jg_eq
          have z232 := tz_f (tk1)
          exact at_307 L231 G219 A220 (1) (r221) (at1) (tk1) (fk1) (nd2_222) (op1) gL231_0 gL231_6 gL231_7 hW223 hF230 (((hF224.1 10 rfl).trans ((hF212.1 10 rfl).trans (ex_at1)))) (((hF224.1 11 rfl).trans ((hF212.1 11 rfl).trans (ex_tk1)))) (((hF224.1 16 rfl).trans ((hF212.1 16 rfl).trans (ex_fk1)))) ((e226)) (((hF224.1 15 rfl).trans ((hF212.1 15 rfl).trans (ex_op1)))) (((hF224.1 9 rfl).trans ((hF212.1 9 rfl).trans (fx_9)))) (by omega) (by omega) (by omega) (by omega) (by omega) (by omega) (by omega) (by omega) (by omega) (by omega) (by omega)
    · have _q : True := trivial
      refine jx_ld (pc' := 267) (l' := jSto1 L 6 (.int (i32 (0)))) (st' := []) rfl rfl ?_
      obtain ⟨L233, eL233⟩ : ∃ q, q = jSto1 L 6 (.int (i32 (0))) := ⟨_, rfl⟩
      rw [← eL233]
      have gL233_0 : jGet L233 0 = some (.ref 66) := eL233 ▸ jg_ne (by decide) gL_0 rfl
      have gL233_2 : jGet L233 2 = some (.int (i32 (s))) := eL233 ▸ jg_ne (by decide) gL_2 rfl
      have gL233_4 : jGet L233 4 = some (.int (i32 (ix))) := eL233 ▸ jg_ne (by decide) gL_4 rfl
      have gL233_5 : jGet L233 5 = some (.int (i32 (row))) := eL233 ▸ jg_ne (by decide) gL_5 rfl
      have gL233_6 : jGet L233 6 = some (.int (i32 (0))) := eL233 ▸ jg_eq
      refine jx_ld (pc' := 268) (l' := L233) (st' := [.ref 66]) rfl (jl_aloadn gL233_0) ?_
      refine jx_ld (pc' := 270) (l' := L233) (st' := [.int (i32 (0)), .ref 66]) rfl (jl_iload gL233_6) ?_
      refine jx_if_eq (pc' := 273) (tg := 278) rfl rfl rfl (by omega) (by omega) (fun h234 => ?_) (fun h234 => ?_)
      · have _q := h234
        refine jx_ar (pc' := 280) (st' := [.int (i32 (24)), .ref 66]) rfl rfl rfl rfl ?_
        refine jx_ld (pc' := 281) (l' := L233) (st' := [.ref 66, .int (i32 (24)), .ref 66]) rfl (jl_aloadn gL233_0) ?_
        refine jx_ld (pc' := 283) (l' := L233) (st' := [.int (i32 (row)), .ref 66, .int (i32 (24)), .ref 66]) rfl (jl_iload gL233_5) ?_
        refine jx_if_eq (pc' := 286) (tg := 290) rfl rfl rfl (by omega) (by omega) (fun h235 => ?_) (fun h235 => ?_)
        · have _q := h235
          refine jx_ar (pc' := 291) (st' := [.int (i32 (2)), .ref 66, .int (i32 (24)), .ref 66]) rfl rfl rfl rfl ?_
          refine jx_ld (pc' := 292) (l' := L233) (st' := [.int (i32 (s)), .int (i32 (2)), .ref 66, .int (i32 (24)), .ref 66]) rfl (jl_iloadn gL233_2) ?_
          refine jx_ld (pc' := 294) (l' := L233) (st' := [.int (i32 (ix)), .int (i32 (s)), .int (i32 (2)), .ref 66, .int (i32 (24)), .ref 66]) rfl (jl_iload gL233_4) ?_
          refine jx_ar (pc' := 295) (st' := [.int (i32 (0)), .int (i32 (ix)), .int (i32 (s)), .int (i32 (2)), .ref 66, .int (i32 (24)), .ref 66]) rfl rfl rfl rfl ?_
          refine jx_ar (pc' := 296) (st' := [.int (i32 (0)), .int (i32 (0)), .int (i32 (ix)), .int (i32 (s)), .int (i32 (2)), .ref 66, .int (i32 (24)), .ref 66]) rfl rfl rfl rfl ?_
          refine jx_vr (pc' := 299) (as := [.int (i32 (2)), .int (i32 (s)), .int (i32 (ix)), .int (i32 (0)), .int (i32 (0))]) (st := [.int (i32 (24)), .ref 66]) rfl rfl rfl rfl ⟨rfl, rfl, Nat.le_of_ble_eq_true rfl⟩ rfl rfl (c_node (dd := d) (hd := by omega) (hW := hWx) (kind := 2) (a := s) (b := ix) (c := 0) (e := 0) (nd := nd1) (e_nd := show Gx 31 = nd1 from (ex_nd1))  (h_kind := by omega) (h_a := by omega) (h_b := by omega) (h_c := by omega) (h_e := by omega)  (p_0 := by omega) (p_1 := by omega)) (fun o V' hq => ?_)
          obtain ⟨G236, A237, r238, nd2_239, rfl, rfl, hW240, hF241, b242, e243, p244, p245, -⟩ := hq
          have hF247 := Fr_tr hFx hF241 (Fr_sub (by decide)) (Fr_sub (by decide))
          have bnd2_239 : (0 : Int) ≤ nd2_239 ∧ nd2_239 ≤ 6999 := e243 ▸ hW240.1 31
          refine .inr ⟨_, rfl, ?_⟩
          refine jx_ar (pc' := 300) (st' := [.int (i32 (0)), .int (i32 (r238)), .int (i32 (24)), .ref 66]) rfl rfl rfl rfl ?_
          refine jx_ar (pc' := 301) (st' := [.int (i32 (0)), .int (i32 (0)), .int (i32 (r238)), .int (i32 (24)), .ref 66]) rfl rfl rfl rfl ?_
          refine jx_ar (pc' := 302) (st' := [.int (i32 (0)), .int (i32 (0)), .int (i32 (0)), .int (i32 (r238)), .int (i32 (24)), .ref 66]) rfl rfl rfl rfl ?_
          refine jx_vr (pc' := 305) (as := [.int (i32 (24)), .int (i32 (r238)), .int (i32 (0)), .int (i32 (0)), .int (i32 (0))]) (st := []) rfl rfl rfl rfl ⟨rfl, rfl, Nat.le_of_ble_eq_true rfl⟩ rfl rfl (c_node (dd := d) (hd := by omega) (hW := hW240) (kind := 24) (a := r238) (b := 0) (c := 0) (e := 0) (nd := nd2_239) (e_nd := show G236 31 = nd2_239 from (e243))  (h_kind := by omega) (h_a := by omega) (h_b := by omega) (h_c := by omega) (h_e := by omega)  (p_0 := by omega) (p_1 := by omega)) (fun o V' hq => ?_)
          obtain ⟨G248, A249, r250, nd2_251, rfl, rfl, hW252, hF253, b254, e255, p256, p257, -⟩ := hq
          have hF259 := Fr_tr hF247 hF253 (Fr_sub (by decide)) (Fr_sub (by decide))
          have bnd2_251 : (0 : Int) ≤ nd2_251 ∧ nd2_251 ≤ 6999 := e255 ▸ hW252.1 31
          refine .inr ⟨_, rfl, ?_⟩
          refine jx_ld (pc' := 307) (l' := jSto1 L233 7 (.int (i32 (r250)))) (st' := []) rfl rfl ?_
          obtain ⟨L260, eL260⟩ : ∃ q, q = jSto1 L233 7 (.int (i32 (r250))) := ⟨_, rfl⟩
          rw [← eL260]
          have gL260_0 : jGet L260 0 = some (.ref 66) := eL260 ▸ jg_ne (by decide) gL233_0 rfl
          have gL260_2 : jGet L260 2 = some (.int (i32 (s))) := eL260 ▸ jg_ne (by decide) gL233_2 rfl
          have gL260_4 : jGet L260 4 = some (.int (i32 (ix))) := eL260 ▸ jg_ne (by decide) gL233_4 rfl
          have gL260_5 : jGet L260 5 = some (.int (i32 (row))) := eL260 ▸ jg_ne (by decide) gL233_5 rfl
          have gL260_6 : jGet L260 6 = some (.int (i32 (0))) := eL260 ▸ jg_ne (by decide) gL233_6 rfl
          have gL260_7 : jGet L260 7 = some (.int (i32 (r250))) := eL260 ▸ jg_eq
          have z261 := tz_f (tk1)
          exact at_307 L260 G248 A249 (0) (r250) (at1) (tk1) (fk1) (nd2_251) (op1) gL260_0 gL260_6 gL260_7 hW252 hF259 (((hF253.1 10 rfl).trans ((hF241.1 10 rfl).trans (ex_at1)))) (((hF253.1 11 rfl).trans ((hF241.1 11 rfl).trans (ex_tk1)))) (((hF253.1 16 rfl).trans ((hF241.1 16 rfl).trans (ex_fk1)))) ((e255)) (((hF253.1 15 rfl).trans ((hF241.1 15 rfl).trans (ex_op1)))) (((hF253.1 9 rfl).trans ((hF241.1 9 rfl).trans (fx_9)))) (by omega) (by omega) (by omega) (by omega) (by omega) (by omega) (by omega) (by omega) (by omega) (by omega) (by omega)
        · have _q := h235
          refine jx_ar (pc' := 287) (st' := [.int (i32 (3)), .ref 66, .int (i32 (24)), .ref 66]) rfl rfl rfl rfl ?_
          refine jx_go (tg := 291) rfl rfl ?_
          refine jx_ld (pc' := 292) (l' := L233) (st' := [.int (i32 (s)), .int (i32 (3)), .ref 66, .int (i32 (24)), .ref 66]) rfl (jl_iloadn gL233_2) ?_
          refine jx_ld (pc' := 294) (l' := L233) (st' := [.int (i32 (ix)), .int (i32 (s)), .int (i32 (3)), .ref 66, .int (i32 (24)), .ref 66]) rfl (jl_iload gL233_4) ?_
          refine jx_ar (pc' := 295) (st' := [.int (i32 (0)), .int (i32 (ix)), .int (i32 (s)), .int (i32 (3)), .ref 66, .int (i32 (24)), .ref 66]) rfl rfl rfl rfl ?_
          refine jx_ar (pc' := 296) (st' := [.int (i32 (0)), .int (i32 (0)), .int (i32 (ix)), .int (i32 (s)), .int (i32 (3)), .ref 66, .int (i32 (24)), .ref 66]) rfl rfl rfl rfl ?_
          refine jx_vr (pc' := 299) (as := [.int (i32 (3)), .int (i32 (s)), .int (i32 (ix)), .int (i32 (0)), .int (i32 (0))]) (st := [.int (i32 (24)), .ref 66]) rfl rfl rfl rfl ⟨rfl, rfl, Nat.le_of_ble_eq_true rfl⟩ rfl rfl (c_node (dd := d) (hd := by omega) (hW := hWx) (kind := 3) (a := s) (b := ix) (c := 0) (e := 0) (nd := nd1) (e_nd := show Gx 31 = nd1 from (ex_nd1))  (h_kind := by omega) (h_a := by omega) (h_b := by omega) (h_c := by omega) (h_e := by omega)  (p_0 := by omega) (p_1 := by omega)) (fun o V' hq => ?_)
          obtain ⟨G262, A263, r264, nd2_265, rfl, rfl, hW266, hF267, b268, e269, p270, p271, -⟩ := hq
          have hF273 := Fr_tr hFx hF267 (Fr_sub (by decide)) (Fr_sub (by decide))
          have bnd2_265 : (0 : Int) ≤ nd2_265 ∧ nd2_265 ≤ 6999 := e269 ▸ hW266.1 31
          refine .inr ⟨_, rfl, ?_⟩
          refine jx_ar (pc' := 300) (st' := [.int (i32 (0)), .int (i32 (r264)), .int (i32 (24)), .ref 66]) rfl rfl rfl rfl ?_
          refine jx_ar (pc' := 301) (st' := [.int (i32 (0)), .int (i32 (0)), .int (i32 (r264)), .int (i32 (24)), .ref 66]) rfl rfl rfl rfl ?_
          refine jx_ar (pc' := 302) (st' := [.int (i32 (0)), .int (i32 (0)), .int (i32 (0)), .int (i32 (r264)), .int (i32 (24)), .ref 66]) rfl rfl rfl rfl ?_
          refine jx_vr (pc' := 305) (as := [.int (i32 (24)), .int (i32 (r264)), .int (i32 (0)), .int (i32 (0)), .int (i32 (0))]) (st := []) rfl rfl rfl rfl ⟨rfl, rfl, Nat.le_of_ble_eq_true rfl⟩ rfl rfl (c_node (dd := d) (hd := by omega) (hW := hW266) (kind := 24) (a := r264) (b := 0) (c := 0) (e := 0) (nd := nd2_265) (e_nd := show G262 31 = nd2_265 from (e269))  (h_kind := by omega) (h_a := by omega) (h_b := by omega) (h_c := by omega) (h_e := by omega)  (p_0 := by omega) (p_1 := by omega)) (fun o V' hq => ?_)
          obtain ⟨G274, A275, r276, nd2_277, rfl, rfl, hW278, hF279, b280, e281, p282, p283, -⟩ := hq
          have hF285 := Fr_tr hF273 hF279 (Fr_sub (by decide)) (Fr_sub (by decide))
          have bnd2_277 : (0 : Int) ≤ nd2_277 ∧ nd2_277 ≤ 6999 := e281 ▸ hW278.1 31
          refine .inr ⟨_, rfl, ?_⟩
          refine jx_ld (pc' := 307) (l' := jSto1 L233 7 (.int (i32 (r276)))) (st' := []) rfl rfl ?_
          obtain ⟨L286, eL286⟩ : ∃ q, q = jSto1 L233 7 (.int (i32 (r276))) := ⟨_, rfl⟩
          rw [← eL286]
          have gL286_0 : jGet L286 0 = some (.ref 66) := eL286 ▸ jg_ne (by decide) gL233_0 rfl
          have gL286_2 : jGet L286 2 = some (.int (i32 (s))) := eL286 ▸ jg_ne (by decide) gL233_2 rfl
          have gL286_4 : jGet L286 4 = some (.int (i32 (ix))) := eL286 ▸ jg_ne (by decide) gL233_4 rfl
          have gL286_5 : jGet L286 5 = some (.int (i32 (row))) := eL286 ▸ jg_ne (by decide) gL233_5 rfl
          have gL286_6 : jGet L286 6 = some (.int (i32 (0))) := eL286 ▸ jg_ne (by decide) gL233_6 rfl
          have gL286_7 : jGet L286 7 = some (.int (i32 (r276))) := eL286 ▸ jg_eq
          have z287 := tz_f (tk1)
          exact at_307 L286 G274 A275 (0) (r276) (at1) (tk1) (fk1) (nd2_277) (op1) gL286_0 gL286_6 gL286_7 hW278 hF285 (((hF279.1 10 rfl).trans ((hF267.1 10 rfl).trans (ex_at1)))) (((hF279.1 11 rfl).trans ((hF267.1 11 rfl).trans (ex_tk1)))) (((hF279.1 16 rfl).trans ((hF267.1 16 rfl).trans (ex_fk1)))) ((e281)) (((hF279.1 15 rfl).trans ((hF267.1 15 rfl).trans (ex_op1)))) (((hF279.1 9 rfl).trans ((hF267.1 9 rfl).trans (fx_9)))) (by omega) (by omega) (by omega) (by omega) (by omega) (by omega) (by omega) (by omega) (by omega) (by omega) (by omega)
      · have _q := h234
        exact absurd h234 (by omega)
  have at_231 : ∀ (L : jL) (Gx : Nat → Int) (Ax : Nat → Nat → Int) (pl s kd ix row at1 tk1 fk1 nd1 op1 : Int), jGet L 0 = some (.ref 66) → jGet L 1 = some (.int (i32 pl)) → jGet L 2 = some (.int (i32 s)) → jGet L 3 = some (.int (i32 kd)) → jGet L 4 = some (.int (i32 ix)) → jGet L 5 = some (.int (i32 row)) → Wk Gx Ax → Fr [9, 10, 11, 12, 13, 14, 15, 16, 17, 18, 31] [15, 16, 17, 18, 19, 20, 21, 22, 24, 28] G A Gx Ax → Gx 10 = at1 → Gx 11 = tk1 → Gx 16 = fk1 → Gx 31 = nd1 → Gx 15 = op1 → Gx 9 = ln → ((-2147483648 : Int) ≤ pl ∧ pl ≤ 2147483647) → ((-2147483648 : Int) ≤ s ∧ s ≤ 2147483647) → ((-2147483648 : Int) ≤ kd ∧ kd ≤ 2147483647) → ((-2147483648 : Int) ≤ ix ∧ ix ≤ 2147483647) → ((-2147483648 : Int) ≤ row ∧ row ≤ 2147483647) → (at0 ≤ at1) → (at1 ≤ le) → (nd ≤ nd1) → (op1 = op0) → (fk1 = 0) → (nd1 - nd ≤ (2 * at1 - tz tk1) - (2 * at0 - tz tk0) - 1) → (tz tk1 = 1) → (-3000 ≤ pl ∧ pl ≤ 3002) → (0 ≤ row ∧ row ≤ 1) → wj X d jm304 (231, L, [], rV c0 c1 Gx Ax T) (fun o V' => ∃ (G' : Nat → Int) (A' : Nat → Nat → Int) (r : Int) (at2 : Int) (fk2 : Int) (nd2 : Int) (ln2 : Int), V' = rV c0 c1 G' A' T ∧ o = .inl (some (.int (i32 r))) ∧ Wk G' A' ∧ Fr [9, 10, 11, 12, 13, 14, 15, 16, 17, 18, 31] [15, 16, 17, 18, 19, 20, 21, 22, 24, 28] G A G' A' ∧ ((-2147483648 : Int) ≤ r ∧ r ≤ 2147483647) ∧ G' 10 = at2 ∧ G' 16 = fk2 ∧ G' 31 = nd2 ∧ G' 9 = ln2 ∧ (at0 ≤ at2) ∧ (at2 ≤ le) ∧ (nd ≤ nd2) ∧ (0 ≤ r) ∧ (r ≤ nd2) ∧ (((1 ≤ fk2) ∧ (ln2 = ln) ∧ (nd2 - nd ≤ 2 * at2 - 2 * at0 + 8)) ∨ ((fk2 = 0) ∧ (ln2 = ln + 1) ∧ (nd2 - nd ≤ 2 * at2 - (2 * at0 - tz tk0) + 0)))) := by
    intro L Gx Ax pl s kd ix row at1 tk1 fk1 nd1 op1 gL_0 gL_1 gL_2 gL_3 gL_4 gL_5 hWx hFx ex_at1 ex_tk1 ex_fk1 ex_nd1 ex_op1 fx_9 rx_pl rx_s rx_kd rx_ix rx_row iv_0 iv_1 iv_2 iv_3 iv_4 iv_5 iv_6 iv_7 iv_8
    have b_at1 : (0 : Int) ≤ at1 ∧ at1 ≤ 3002 := ex_at1 ▸ hWx.1 10
    have z_tk1 := tz_f tk1
    have b_tk1 : (0 : Int) ≤ tk1 ∧ tk1 ≤ 5 := ex_tk1 ▸ hWx.1 11
    have b_fk1 : (0 : Int) ≤ fk1 ∧ fk1 ≤ 6 := ex_fk1 ▸ hWx.1 16
    have b_nd1 : (0 : Int) ≤ nd1 ∧ nd1 ≤ 6999 := ex_nd1 ▸ hWx.1 31
    have b_op1 : (-2147483648 : Int) ≤ op1 ∧ op1 ≤ 2147483647 := ex_op1 ▸ hWx.1 15
    refine jx_ld (pc' := 233) (l' := L) (st' := [.int (i32 (row))]) rfl (jl_iload gL_5) ?_
    refine jx_if_eq (pc' := 236) (tg := 244) rfl rfl rfl (by omega) (by omega) (fun h288 => ?_) (fun h288 => ?_)
    · have _q := h288
      refine jx_ld (pc' := 245) (l' := L) (st' := [.int (i32 (kd))]) rfl (jl_iloadn gL_3) ?_
      refine jx_st (pc' := 248) (as := [.int (i32 (kd))]) (st := []) rfl rfl ⟨rfl, Nat.le_of_ble_eq_true rfl⟩ rfl rfl rfl (c_isChannel (dd := d) (hd := by omega) (k := kd)   (h_k := by omega)  ) (fun o V' hq => ?_)
      obtain ⟨r289, rfl, rfl, b290, q291⟩ := hq
      refine .inr ⟨_, rfl, ?_⟩
      rcases q291 with rfl | rfl
      · have _q : True := trivial
        refine jx_if_ne (pc' := 251) (tg := 259) rfl rfl rfl (by omega) (by omega) (fun h292 => ?_) (fun h292 => ?_)
        · have _q := h292
          have z293 := tz_f (tk1)
          exact at_259 L Gx Ax (s) (ix) (row) (at1) (tk1) (fk1) (nd1) (op1) gL_0 gL_2 gL_4 gL_5 hWx hFx ((ex_at1)) ((ex_tk1)) ((ex_fk1)) ((ex_nd1)) ((ex_op1)) ((fx_9)) (by omega) (by omega) (by omega) (by omega) (by omega) (by omega) (by omega) (by omega) (by omega) (by omega) (by omega)
        · have _q := h292
          exact absurd h292 (by omega)
      · have _q : True := trivial
        refine jx_if_ne (pc' := 251) (tg := 259) rfl rfl rfl (by omega) (by omega) (fun h294 => ?_) (fun h294 => ?_)
        · have _q := h294
          exact absurd h294 (by omega)
        · have _q := h294
          refine jx_ld (pc' := 252) (l' := L) (st' := [.ref 66]) rfl (jl_aloadn gL_0) ?_
          refine jx_ar (pc' := 253) (st' := [.int (i32 (4)), .ref 66]) rfl rfl rfl rfl ?_
          refine jx_ld (pc' := 254) (l' := L) (st' := [.int (i32 (pl)), .int (i32 (4)), .ref 66]) rfl (jl_iloadn gL_1) ?_
          refine jx_vr (pc' := 257) (as := [.int (i32 (4)), .int (i32 (pl))]) (st := []) rfl rfl rfl rfl ⟨rfl, rfl, Nat.le_of_ble_eq_true rfl⟩ rfl rfl (c_fail (dd := d) (hd := by omega) (hW := hWx) (kind := 4) (place := pl) (fk := fk1) (e_fk := show Gx 16 = fk1 from (ex_fk1))  (h_kind := by omega) (h_place := by omega)  (p_0 := by omega) (p_1 := by omega)) (fun o V' hq => ?_)
          obtain ⟨G295, A296, fk2_297, rfl, rfl, hW298, hF299, e300, p301, -⟩ := hq
          have hF303 := Fr_tr hFx hF299 (Fr_sub (by decide)) (Fr_sub (by decide))
          have bfk2_297 : (0 : Int) ≤ fk2_297 ∧ fk2_297 ≤ 6 := e300 ▸ hW298.1 16
          refine .inl ⟨rfl, ?_⟩
          refine jx_ar (pc' := 258) (st' := [.int (i32 (0))]) rfl rfl rfl rfl ?_
          refine jx_rt (v := some (.int (i32 (0)))) rfl rfl rfl rfl rfl rfl ?_
          exact ⟨_, _, _, at1, fk2_297, nd1, ln, rfl, rfl, hW298, hF303, by omega, ((hF299.1 10 rfl).trans (ex_at1)), (e300), ((hF299.1 31 rfl).trans (ex_nd1)), ((hF299.1 9 rfl).trans (fx_9)), by omega, by omega, by omega, by omega, by omega, by first | exact Or.inl (⟨by omega, by omega, by omega⟩) | exact Or.inr ((⟨by omega, by omega, by omega⟩))⟩
    · have _q := h288
      refine jx_ld (pc' := 237) (l' := L) (st' := [.int (i32 (kd))]) rfl (jl_iloadn gL_3) ?_
      refine jx_ar (pc' := 238) (st' := [.int (i32 (4)), .int (i32 (kd))]) rfl rfl rfl rfl ?_
      refine jx_icmp_eq (pc' := 241) (tg := 259) rfl rfl rfl (by omega) (by omega) (by omega) (by omega) (fun h304 => ?_) (fun h304 => ?_)
      · have _q := h304
        have z305 := tz_f (tk1)
        exact at_259 L Gx Ax (s) (ix) (row) (at1) (tk1) (fk1) (nd1) (op1) gL_0 gL_2 gL_4 gL_5 hWx hFx ((ex_at1)) ((ex_tk1)) ((ex_fk1)) ((ex_nd1)) ((ex_op1)) ((fx_9)) (by omega) (by omega) (by omega) (by omega) (by omega) (by omega) (by omega) (by omega) (by omega) (by omega) (by omega)
      · have _q := h304
        refine jx_go (tg := 251) rfl rfl ?_
        refine jx_ld (pc' := 252) (l' := L) (st' := [.ref 66]) rfl (jl_aloadn gL_0) ?_
        refine jx_ar (pc' := 253) (st' := [.int (i32 (4)), .ref 66]) rfl rfl rfl rfl ?_
        refine jx_ld (pc' := 254) (l' := L) (st' := [.int (i32 (pl)), .int (i32 (4)), .ref 66]) rfl (jl_iloadn gL_1) ?_
        refine jx_vr (pc' := 257) (as := [.int (i32 (4)), .int (i32 (pl))]) (st := []) rfl rfl rfl rfl ⟨rfl, rfl, Nat.le_of_ble_eq_true rfl⟩ rfl rfl (c_fail (dd := d) (hd := by omega) (hW := hWx) (kind := 4) (place := pl) (fk := fk1) (e_fk := show Gx 16 = fk1 from (ex_fk1))  (h_kind := by omega) (h_place := by omega)  (p_0 := by omega) (p_1 := by omega)) (fun o V' hq => ?_)
        obtain ⟨G306, A307, fk2_308, rfl, rfl, hW309, hF310, e311, p312, -⟩ := hq
        have hF314 := Fr_tr hFx hF310 (Fr_sub (by decide)) (Fr_sub (by decide))
        have bfk2_308 : (0 : Int) ≤ fk2_308 ∧ fk2_308 ≤ 6 := e311 ▸ hW309.1 16
        refine .inl ⟨rfl, ?_⟩
        refine jx_ar (pc' := 258) (st' := [.int (i32 (0))]) rfl rfl rfl rfl ?_
        refine jx_rt (v := some (.int (i32 (0)))) rfl rfl rfl rfl rfl rfl ?_
        exact ⟨_, _, _, at1, fk2_308, nd1, ln, rfl, rfl, hW309, hF314, by omega, ((hF310.1 10 rfl).trans (ex_at1)), (e311), ((hF310.1 31 rfl).trans (ex_nd1)), ((hF310.1 9 rfl).trans (fx_9)), by omega, by omega, by omega, by omega, by omega, by first | exact Or.inl (⟨by omega, by omega, by omega⟩) | exact Or.inr ((⟨by omega, by omega, by omega⟩))⟩
  have at_180 : ∀ (L : jL) (Gx : Nat → Int) (Ax : Nat → Nat → Int) (n at1 tk1 fk1 nd1 op1 : Int), jGet L 0 = some (.ref 66) → jGet L 6 = some (.int (i32 n)) → Wk Gx Ax → Fr [9, 10, 11, 12, 13, 14, 15, 16, 17, 18, 31] [15, 16, 17, 18, 19, 20, 21, 22, 24, 28] G A Gx Ax → Gx 10 = at1 → Gx 11 = tk1 → Gx 16 = fk1 → Gx 31 = nd1 → Gx 15 = op1 → Gx 9 = ln → ((-2147483648 : Int) ≤ n ∧ n ≤ 2147483647) → (at0 ≤ at1) → (at1 ≤ le) → (nd ≤ nd1) → (op1 = op0) → (fk1 = 0) → (nd1 - nd ≤ (2 * at1 - tz tk1) - (2 * at0 - tz tk0) + 1) → (tz tk1 = 1) → (0 ≤ n ∧ n ≤ 6998 ∧ n ≤ nd1) → wj X d jm304 (180, L, [], rV c0 c1 Gx Ax T) (fun o V' => ∃ (G' : Nat → Int) (A' : Nat → Nat → Int) (r : Int) (at2 : Int) (fk2 : Int) (nd2 : Int) (ln2 : Int), V' = rV c0 c1 G' A' T ∧ o = .inl (some (.int (i32 r))) ∧ Wk G' A' ∧ Fr [9, 10, 11, 12, 13, 14, 15, 16, 17, 18, 31] [15, 16, 17, 18, 19, 20, 21, 22, 24, 28] G A G' A' ∧ ((-2147483648 : Int) ≤ r ∧ r ≤ 2147483647) ∧ G' 10 = at2 ∧ G' 16 = fk2 ∧ G' 31 = nd2 ∧ G' 9 = ln2 ∧ (at0 ≤ at2) ∧ (at2 ≤ le) ∧ (nd ≤ nd2) ∧ (0 ≤ r) ∧ (r ≤ nd2) ∧ (((1 ≤ fk2) ∧ (ln2 = ln) ∧ (nd2 - nd ≤ 2 * at2 - 2 * at0 + 8)) ∨ ((fk2 = 0) ∧ (ln2 = ln + 1) ∧ (nd2 - nd ≤ 2 * at2 - (2 * at0 - tz tk0) + 0)))) := by
    intro L Gx Ax n at1 tk1 fk1 nd1 op1 gL_0 gL_6 hWx hFx ex_at1 ex_tk1 ex_fk1 ex_nd1 ex_op1 fx_9 rx_n iv_0 iv_1 iv_2 iv_3 iv_4 iv_5 iv_6 iv_7
    have b_at1 : (0 : Int) ≤ at1 ∧ at1 ≤ 3002 := ex_at1 ▸ hWx.1 10
    have z_tk1 := tz_f tk1
    have b_tk1 : (0 : Int) ≤ tk1 ∧ tk1 ≤ 5 := ex_tk1 ▸ hWx.1 11
    have b_fk1 : (0 : Int) ≤ fk1 ∧ fk1 ≤ 6 := ex_fk1 ▸ hWx.1 16
    have b_nd1 : (0 : Int) ≤ nd1 ∧ nd1 ≤ 6999 := ex_nd1 ▸ hWx.1 31
    have b_op1 : (-2147483648 : Int) ≤ op1 ∧ op1 ≤ 2147483647 := ex_op1 ▸ hWx.1 15
    refine jx_ld (pc' := 181) (l' := L) (st' := [.ref 66]) rfl (jl_aloadn gL_0) ?_
    refine jx_vr (pc' := 184) (as := []) (st := []) rfl rfl rfl rfl ⟨rfl, rfl, Nat.le_of_ble_eq_true rfl⟩ rfl rfl (c_next (dd := d) (hd := by omega) (hW := hWx)  (ln := ln) (e_ln := show Gx 9 = ln from (fx_9)) (le := le) (e_le := show Ax 4 (ln).toNat = le from (congrFun (hFx.2 4 rfl) _).trans (e_le)) (at0 := at1) (e_at0 := show Gx 10 = at1 from (ex_at1))    (p_0 := by omega)) (fun o V' hq => ?_)
    obtain ⟨G315, A316, at2_317, tk2_318, rfl, rfl, hW319, hF320, e321, e322, p323, p324, p325, -⟩ := hq
    have hF327 := Fr_tr hFx hF320 (Fr_sub (by decide)) (Fr_sub (by decide))
    have bat2_317 : (0 : Int) ≤ at2_317 ∧ at2_317 ≤ 3002 := e321 ▸ hW319.1 10
    have ztk2_318 := tz_b tk2_318
    have btk2_318 : (0 : Int) ≤ tk2_318 ∧ tk2_318 ≤ 5 := e322 ▸ hW319.1 11
    refine .inl ⟨rfl, ?_⟩
    refine jx_ld (pc' := 185) (l' := L) (st' := [.ref 66]) rfl (jl_aloadn gL_0) ?_
    refine jr_get (pc' := 188) (i := 35) (v := .ref 85) rfl rfl (by decide) rfl rfl ?_
    refine jx_ld (pc' := 190) (l' := L) (st' := [.int (i32 (n)), .ref 85]) rfl (jl_iload gL_6) ?_
    refine jx_ld (pc' := 191) (l' := L) (st' := [.ref 66, .int (i32 (n)), .ref 85]) rfl (jl_aloadn gL_0) ?_
    refine jx_vr (pc' := 194) (as := []) (st := [.int (i32 (n)), .ref 85]) rfl rfl rfl rfl ⟨rfl, rfl, Nat.le_of_ble_eq_true rfl⟩ rfl rfl (RE_all X 9 (dd := d) (hd := by omega) (hW := hW319)  (ln := ln) (e_ln := show G315 9 = ln from ((hF320.1 9 rfl).trans (fx_9))) (le := le) (e_le := show A316 4 (ln).toNat = le from (congrFun ((hF320.2 4 rfl).trans (hFx.2 4 rfl)) _).trans (e_le)) (at0 := at2_317) (e_at0 := show G315 10 = at2_317 from (e321)) (fk := fk1) (e_fk := show G315 16 = fk1 from ((hF320.1 16 rfl).trans (ex_fk1))) (op0 := op1) (e_op0 := show G315 15 = op1 from ((hF320.1 15 rfl).trans (ex_op1))) (nd := nd1) (e_nd := show G315 31 = nd1 from ((hF320.1 31 rfl).trans (ex_nd1))) (tk0 := tk2_318) (e_tk0 := show G315 11 = tk2_318 from (e322))    (p_0 := by omega) (p_1 := by omega) (p_2 := by omega) (p_3 := by omega) (p_4 := by omega) (p_5 := by omega)) (fun o V' hq => ?_)
    obtain ⟨G328, A329, r330, at2_331, fk2_332, op2_333, nd2_334, tk2_335, rfl, rfl, hW336, hF337, b338, e339, e340, e341, e342, e343, p344, p345, p346, p347, p348, p349, q350⟩ := hq
    have hF351 := Fr_tr hF327 hF337 (Fr_sub (by decide)) (Fr_sub (by decide))
    have bat2_331 : (0 : Int) ≤ at2_331 ∧ at2_331 ≤ 3002 := e339 ▸ hW336.1 10
    have bfk2_332 : (0 : Int) ≤ fk2_332 ∧ fk2_332 ≤ 6 := e340 ▸ hW336.1 16
    have bop2_333 : (-2147483648 : Int) ≤ op2_333 ∧ op2_333 ≤ 2147483647 := e341 ▸ hW336.1 15
    have bnd2_334 : (0 : Int) ≤ nd2_334 ∧ nd2_334 ≤ 6999 := e342 ▸ hW336.1 31
    have ztk2_335 := tz_b tk2_335
    have btk2_335 : (0 : Int) ≤ tk2_335 ∧ tk2_335 ≤ 5 := e343 ▸ hW336.1 11
    refine .inr ⟨_, rfl, ?_⟩
    rcases q350 with ⟨a352, a353, a354, a355, a356, a357⟩ | ⟨a358, a359, a360⟩ | ⟨a361, a362, a363⟩
    · have _q : True := trivial
      exfalso
      omega
    · have _q : True := trivial
      refine jr_st (pc' := 195) (i := 18) (m := 7000) (z := n) (y := r330) rfl (by decide) rfl (by decide) (by omega) (by omega) rfl ?_
      have hW365 : Wk G328 (uA A329 18 (n).toNat (r330)) := Wk_a hW336 (show (-2147483648 : Int) ≤ r330 by omega) (show r330 ≤ (2147483647 : Int) by omega)
      have hF366 := Fr_a (z := r330) (k := 18) (n := (n).toNat) hF351 (by decide)
      obtain ⟨A364, eA364⟩ : ∃ q, q = uA A329 18 (n).toNat (r330) := ⟨_, rfl⟩
      rw [← eA364]
      rw [← eA364] at hW365 hF366
      have q367 : A364 18 (n).toNat = r330 := by rw [eA364]; exact uA_eq
      refine jx_ld (pc' := 196) (l' := L) (st' := [.ref 66]) rfl (jl_aloadn gL_0) ?_
      refine jx_vr (pc' := 199) (as := []) (st := []) rfl rfl rfl rfl ⟨rfl, rfl, Nat.le_of_ble_eq_true rfl⟩ rfl rfl (c_endLine (dd := d) (hd := by omega) (hW := hW365)  (ln := ln) (e_ln := show G328 9 = ln from ((hF337.1 9 rfl).trans ((hF320.1 9 rfl).trans (fx_9)))) (li := li) (e_li := show G328 3 = li from ((hF337.1 3 rfl).trans ((hF320.1 3 rfl).trans ((hFx.1 3 rfl).trans (e_li))))) (fk := fk2_332) (e_fk := show G328 16 = fk2_332 from (e340)) (tk0 := tk2_335) (e_tk0 := show G328 11 = tk2_335 from (e343))    (p_0 := by omega)) (fun o V' hq => ?_)
      obtain ⟨G368, A369, ln2_370, fk2_371, rfl, rfl, hW372, hF373, e374, e375, q376⟩ := hq
      have hF377 := Fr_tr hF366 hF373 (Fr_sub (by decide)) (Fr_sub (by decide))
      have bln2_370 : (0 : Int) ≤ ln2_370 ∧ ln2_370 ≤ 3000 := e374 ▸ hW372.1 9
      have bfk2_371 : (0 : Int) ≤ fk2_371 ∧ fk2_371 ≤ 6 := e375 ▸ hW372.1 16
      refine .inl ⟨rfl, ?_⟩
      rcases q376 with ⟨a378, a379, a380, a381, a382⟩ | ⟨a383, a384⟩
      · have _q : True := trivial
        exfalso
        omega
      · have _q : True := trivial
        refine jx_ld (pc' := 201) (l' := L) (st' := [.int (i32 (n))]) rfl (jl_iload gL_6) ?_
        refine jx_rt (v := some (.int (i32 (n)))) rfl rfl rfl rfl rfl rfl ?_
        exact ⟨_, _, _, at2_331, fk2_371, nd2_334, ln2_370, rfl, rfl, hW372, hF377, by omega, ((hF373.1 10 rfl).trans (e339)), (e375), ((hF373.1 31 rfl).trans (e342)), (e374), by omega, by omega, by omega, by omega, by omega, by first | exact Or.inl (⟨by omega, by omega, by omega⟩) | exact Or.inr ((⟨by omega, by omega, by omega⟩))⟩
    · have _q : True := trivial
      refine jr_st (pc' := 195) (i := 18) (m := 7000) (z := n) (y := r330) rfl (by decide) rfl (by decide) (by omega) (by omega) rfl ?_
      have hW386 : Wk G328 (uA A329 18 (n).toNat (r330)) := Wk_a hW336 (show (-2147483648 : Int) ≤ r330 by omega) (show r330 ≤ (2147483647 : Int) by omega)
      have hF387 := Fr_a (z := r330) (k := 18) (n := (n).toNat) hF351 (by decide)
      obtain ⟨A385, eA385⟩ : ∃ q, q = uA A329 18 (n).toNat (r330) := ⟨_, rfl⟩
      rw [← eA385]
      rw [← eA385] at hW386 hF387
      have q388 : A385 18 (n).toNat = r330 := by rw [eA385]; exact uA_eq
      refine jx_ld (pc' := 196) (l' := L) (st' := [.ref 66]) rfl (jl_aloadn gL_0) ?_
      refine jx_vr (pc' := 199) (as := []) (st := []) rfl rfl rfl rfl ⟨rfl, rfl, Nat.le_of_ble_eq_true rfl⟩ rfl rfl (c_endLine (dd := d) (hd := by omega) (hW := hW386)  (ln := ln) (e_ln := show G328 9 = ln from ((hF337.1 9 rfl).trans ((hF320.1 9 rfl).trans (fx_9)))) (li := li) (e_li := show G328 3 = li from ((hF337.1 3 rfl).trans ((hF320.1 3 rfl).trans ((hFx.1 3 rfl).trans (e_li))))) (fk := fk2_332) (e_fk := show G328 16 = fk2_332 from (e340)) (tk0 := tk2_335) (e_tk0 := show G328 11 = tk2_335 from (e343))    (p_0 := by omega)) (fun o V' hq => ?_)
      obtain ⟨G389, A390, ln2_391, fk2_392, rfl, rfl, hW393, hF394, e395, e396, q397⟩ := hq
      have hF398 := Fr_tr hF387 hF394 (Fr_sub (by decide)) (Fr_sub (by decide))
      have bln2_391 : (0 : Int) ≤ ln2_391 ∧ ln2_391 ≤ 3000 := e395 ▸ hW393.1 9
      have bfk2_392 : (0 : Int) ≤ fk2_392 ∧ fk2_392 ≤ 6 := e396 ▸ hW393.1 16
      refine .inl ⟨rfl, ?_⟩
      rcases q397 with ⟨a399, a400, a401, a402, a403⟩ | ⟨a404, a405⟩
      · have _q : True := trivial
        refine jx_ld (pc' := 201) (l' := L) (st' := [.int (i32 (n))]) rfl (jl_iload gL_6) ?_
        refine jx_rt (v := some (.int (i32 (n)))) rfl rfl rfl rfl rfl rfl ?_
        exact ⟨_, _, _, at2_331, fk2_392, nd2_334, ln2_391, rfl, rfl, hW393, hF398, by omega, ((hF394.1 10 rfl).trans (e339)), (e396), ((hF394.1 31 rfl).trans (e342)), (e395), by omega, by omega, by omega, by omega, by omega, by first | exact Or.inl (⟨by omega, by omega, by omega⟩) | exact Or.inr ((⟨by omega, by omega, by omega⟩))⟩
      · have _q : True := trivial
        refine jx_ld (pc' := 201) (l' := L) (st' := [.int (i32 (n))]) rfl (jl_iload gL_6) ?_
        refine jx_rt (v := some (.int (i32 (n)))) rfl rfl rfl rfl rfl rfl ?_
        exact ⟨_, _, _, at2_331, fk2_392, nd2_334, ln2_391, rfl, rfl, hW393, hF398, by omega, ((hF394.1 10 rfl).trans (e339)), (e396), ((hF394.1 31 rfl).trans (e342)), (e395), by omega, by omega, by omega, by omega, by omega, by first | exact Or.inl (⟨by omega, by omega, by omega⟩) | exact Or.inr ((⟨by omega, by omega, by omega⟩))⟩
  have at_150 : ∀ (L : jL) (Gx : Nat → Int) (Ax : Nat → Nat → Int) (s ix row at1 tk1 fk1 nd1 op1 : Int), jGet L 0 = some (.ref 66) → jGet L 2 = some (.int (i32 s)) → jGet L 4 = some (.int (i32 ix)) → jGet L 5 = some (.int (i32 row)) → Wk Gx Ax → Fr [9, 10, 11, 12, 13, 14, 15, 16, 17, 18, 31] [15, 16, 17, 18, 19, 20, 21, 22, 24, 28] G A Gx Ax → Gx 10 = at1 → Gx 11 = tk1 → Gx 16 = fk1 → Gx 31 = nd1 → Gx 15 = op1 → Gx 9 = ln → ((-2147483648 : Int) ≤ s ∧ s ≤ 2147483647) → ((-2147483648 : Int) ≤ ix ∧ ix ≤ 2147483647) → ((-2147483648 : Int) ≤ row ∧ row ≤ 2147483647) → (at0 ≤ at1) → (at1 ≤ le) → (nd ≤ nd1) → (op1 = op0) → (fk1 = 0) → (nd1 - nd ≤ (2 * at1 - tz tk1) - (2 * at0 - tz tk0) - 1) → (tz tk1 = 1) → (0 ≤ row ∧ row ≤ 1) → wj X d jm304 (150, L, [], rV c0 c1 Gx Ax T) (fun o V' => ∃ (G' : Nat → Int) (A' : Nat → Nat → Int) (r : Int) (at2 : Int) (fk2 : Int) (nd2 : Int) (ln2 : Int), V' = rV c0 c1 G' A' T ∧ o = .inl (some (.int (i32 r))) ∧ Wk G' A' ∧ Fr [9, 10, 11, 12, 13, 14, 15, 16, 17, 18, 31] [15, 16, 17, 18, 19, 20, 21, 22, 24, 28] G A G' A' ∧ ((-2147483648 : Int) ≤ r ∧ r ≤ 2147483647) ∧ G' 10 = at2 ∧ G' 16 = fk2 ∧ G' 31 = nd2 ∧ G' 9 = ln2 ∧ (at0 ≤ at2) ∧ (at2 ≤ le) ∧ (nd ≤ nd2) ∧ (0 ≤ r) ∧ (r ≤ nd2) ∧ (((1 ≤ fk2) ∧ (ln2 = ln) ∧ (nd2 - nd ≤ 2 * at2 - 2 * at0 + 8)) ∨ ((fk2 = 0) ∧ (ln2 = ln + 1) ∧ (nd2 - nd ≤ 2 * at2 - (2 * at0 - tz tk0) + 0)))) := by
    intro L Gx Ax s ix row at1 tk1 fk1 nd1 op1 gL_0 gL_2 gL_4 gL_5 hWx hFx ex_at1 ex_tk1 ex_fk1 ex_nd1 ex_op1 fx_9 rx_s rx_ix rx_row iv_0 iv_1 iv_2 iv_3 iv_4 iv_5 iv_6 iv_7
    have b_at1 : (0 : Int) ≤ at1 ∧ at1 ≤ 3002 := ex_at1 ▸ hWx.1 10
    have z_tk1 := tz_f tk1
    have b_tk1 : (0 : Int) ≤ tk1 ∧ tk1 ≤ 5 := ex_tk1 ▸ hWx.1 11
    have b_fk1 : (0 : Int) ≤ fk1 ∧ fk1 ≤ 6 := ex_fk1 ▸ hWx.1 16
    have b_nd1 : (0 : Int) ≤ nd1 ∧ nd1 ≤ 6999 := ex_nd1 ▸ hWx.1 31
    have b_op1 : (-2147483648 : Int) ≤ op1 ∧ op1 ≤ 2147483647 := ex_op1 ▸ hWx.1 15
    refine jx_ld (pc' := 151) (l' := L) (st' := [.ref 66]) rfl (jl_aloadn gL_0) ?_
    refine jx_ar (pc' := 153) (st' := [.int (i32 (22)), .ref 66]) rfl rfl rfl rfl ?_
    refine jx_ld (pc' := 154) (l' := L) (st' := [.ref 66, .int (i32 (22)), .ref 66]) rfl (jl_aloadn gL_0) ?_
    refine jx_ld (pc' := 156) (l' := L) (st' := [.int (i32 (row)), .ref 66, .int (i32 (22)), .ref 66]) rfl (jl_iload gL_5) ?_
    refine jx_if_eq (pc' := 159) (tg := 163) rfl rfl rfl (by omega) (by omega) (fun h406 => ?_) (fun h406 => ?_)
    · have _q := h406
      refine jx_ar (pc' := 164) (st' := [.int (i32 (2)), .ref 66, .int (i32 (22)), .ref 66]) rfl rfl rfl rfl ?_
      refine jx_ld (pc' := 165) (l' := L) (st' := [.int (i32 (s)), .int (i32 (2)), .ref 66, .int (i32 (22)), .ref 66]) rfl (jl_iloadn gL_2) ?_
      refine jx_ld (pc' := 167) (l' := L) (st' := [.int (i32 (ix)), .int (i32 (s)), .int (i32 (2)), .ref 66, .int (i32 (22)), .ref 66]) rfl (jl_iload gL_4) ?_
      refine jx_ar (pc' := 168) (st' := [.int (i32 (0)), .int (i32 (ix)), .int (i32 (s)), .int (i32 (2)), .ref 66, .int (i32 (22)), .ref 66]) rfl rfl rfl rfl ?_
      refine jx_ar (pc' := 169) (st' := [.int (i32 (0)), .int (i32 (0)), .int (i32 (ix)), .int (i32 (s)), .int (i32 (2)), .ref 66, .int (i32 (22)), .ref 66]) rfl rfl rfl rfl ?_
      refine jx_vr (pc' := 172) (as := [.int (i32 (2)), .int (i32 (s)), .int (i32 (ix)), .int (i32 (0)), .int (i32 (0))]) (st := [.int (i32 (22)), .ref 66]) rfl rfl rfl rfl ⟨rfl, rfl, Nat.le_of_ble_eq_true rfl⟩ rfl rfl (c_node (dd := d) (hd := by omega) (hW := hWx) (kind := 2) (a := s) (b := ix) (c := 0) (e := 0) (nd := nd1) (e_nd := show Gx 31 = nd1 from (ex_nd1))  (h_kind := by omega) (h_a := by omega) (h_b := by omega) (h_c := by omega) (h_e := by omega)  (p_0 := by omega) (p_1 := by omega)) (fun o V' hq => ?_)
      obtain ⟨G407, A408, r409, nd2_410, rfl, rfl, hW411, hF412, b413, e414, p415, p416, -⟩ := hq
      have hF418 := Fr_tr hFx hF412 (Fr_sub (by decide)) (Fr_sub (by decide))
      have bnd2_410 : (0 : Int) ≤ nd2_410 ∧ nd2_410 ≤ 6999 := e414 ▸ hW411.1 31
      refine .inr ⟨_, rfl, ?_⟩
      refine jx_ar (pc' := 173) (st' := [.int (i32 (0)), .int (i32 (r409)), .int (i32 (22)), .ref 66]) rfl rfl rfl rfl ?_
      refine jx_ar (pc' := 174) (st' := [.int (i32 (0)), .int (i32 (0)), .int (i32 (r409)), .int (i32 (22)), .ref 66]) rfl rfl rfl rfl ?_
      refine jx_ar (pc' := 175) (st' := [.int (i32 (0)), .int (i32 (0)), .int (i32 (0)), .int (i32 (r409)), .int (i32 (22)), .ref 66]) rfl rfl rfl rfl ?_
      refine jx_vr (pc' := 178) (as := [.int (i32 (22)), .int (i32 (r409)), .int (i32 (0)), .int (i32 (0)), .int (i32 (0))]) (st := []) rfl rfl rfl rfl ⟨rfl, rfl, Nat.le_of_ble_eq_true rfl⟩ rfl rfl (c_node (dd := d) (hd := by omega) (hW := hW411) (kind := 22) (a := r409) (b := 0) (c := 0) (e := 0) (nd := nd2_410) (e_nd := show G407 31 = nd2_410 from (e414))  (h_kind := by omega) (h_a := by omega) (h_b := by omega) (h_c := by omega) (h_e := by omega)  (p_0 := by omega) (p_1 := by omega)) (fun o V' hq => ?_)
      obtain ⟨G419, A420, r421, nd2_422, rfl, rfl, hW423, hF424, b425, e426, p427, p428, -⟩ := hq
      have hF430 := Fr_tr hF418 hF424 (Fr_sub (by decide)) (Fr_sub (by decide))
      have bnd2_422 : (0 : Int) ≤ nd2_422 ∧ nd2_422 ≤ 6999 := e426 ▸ hW423.1 31
      refine .inr ⟨_, rfl, ?_⟩
      refine jx_ld (pc' := 180) (l' := jSto1 L 6 (.int (i32 (r421)))) (st' := []) rfl rfl ?_
      obtain ⟨L431, eL431⟩ : ∃ q, q = jSto1 L 6 (.int (i32 (r421))) := ⟨_, rfl⟩
      rw [← eL431]
      have gL431_0 : jGet L431 0 = some (.ref 66) := eL431 ▸ jg_ne (by decide) gL_0 rfl
      have gL431_2 : jGet L431 2 = some (.int (i32 (s))) := eL431 ▸ jg_ne (by decide) gL_2 rfl
      have gL431_4 : jGet L431 4 = some (.int (i32 (ix))) := eL431 ▸ jg_ne (by decide) gL_4 rfl
      have gL431_5 : jGet L431 5 = some (.int (i32 (row))) := eL431 ▸ jg_ne (by decide) gL_5 rfl
      have gL431_6 : jGet L431 6 = some (.int (i32 (r421))) := eL431 ▸ jg_eq
      have z432 := tz_f (tk1)
      exact at_180 L431 G419 A420 (r421) (at1) (tk1) (fk1) (nd2_422) (op1) gL431_0 gL431_6 hW423 hF430 (((hF424.1 10 rfl).trans ((hF412.1 10 rfl).trans (ex_at1)))) (((hF424.1 11 rfl).trans ((hF412.1 11 rfl).trans (ex_tk1)))) (((hF424.1 16 rfl).trans ((hF412.1 16 rfl).trans (ex_fk1)))) ((e426)) (((hF424.1 15 rfl).trans ((hF412.1 15 rfl).trans (ex_op1)))) (((hF424.1 9 rfl).trans ((hF412.1 9 rfl).trans (fx_9)))) (by omega) (by omega) (by omega) (by omega) (by omega) (by omega) (by omega) (by omega) (by omega)
    · have _q := h406
      refine jx_ar (pc' := 160) (st' := [.int (i32 (3)), .ref 66, .int (i32 (22)), .ref 66]) rfl rfl rfl rfl ?_
      refine jx_go (tg := 164) rfl rfl ?_
      refine jx_ld (pc' := 165) (l' := L) (st' := [.int (i32 (s)), .int (i32 (3)), .ref 66, .int (i32 (22)), .ref 66]) rfl (jl_iloadn gL_2) ?_
      refine jx_ld (pc' := 167) (l' := L) (st' := [.int (i32 (ix)), .int (i32 (s)), .int (i32 (3)), .ref 66, .int (i32 (22)), .ref 66]) rfl (jl_iload gL_4) ?_
      refine jx_ar (pc' := 168) (st' := [.int (i32 (0)), .int (i32 (ix)), .int (i32 (s)), .int (i32 (3)), .ref 66, .int (i32 (22)), .ref 66]) rfl rfl rfl rfl ?_
      refine jx_ar (pc' := 169) (st' := [.int (i32 (0)), .int (i32 (0)), .int (i32 (ix)), .int (i32 (s)), .int (i32 (3)), .ref 66, .int (i32 (22)), .ref 66]) rfl rfl rfl rfl ?_
      refine jx_vr (pc' := 172) (as := [.int (i32 (3)), .int (i32 (s)), .int (i32 (ix)), .int (i32 (0)), .int (i32 (0))]) (st := [.int (i32 (22)), .ref 66]) rfl rfl rfl rfl ⟨rfl, rfl, Nat.le_of_ble_eq_true rfl⟩ rfl rfl (c_node (dd := d) (hd := by omega) (hW := hWx) (kind := 3) (a := s) (b := ix) (c := 0) (e := 0) (nd := nd1) (e_nd := show Gx 31 = nd1 from (ex_nd1))  (h_kind := by omega) (h_a := by omega) (h_b := by omega) (h_c := by omega) (h_e := by omega)  (p_0 := by omega) (p_1 := by omega)) (fun o V' hq => ?_)
      obtain ⟨G433, A434, r435, nd2_436, rfl, rfl, hW437, hF438, b439, e440, p441, p442, -⟩ := hq
      have hF444 := Fr_tr hFx hF438 (Fr_sub (by decide)) (Fr_sub (by decide))
      have bnd2_436 : (0 : Int) ≤ nd2_436 ∧ nd2_436 ≤ 6999 := e440 ▸ hW437.1 31
      refine .inr ⟨_, rfl, ?_⟩
      refine jx_ar (pc' := 173) (st' := [.int (i32 (0)), .int (i32 (r435)), .int (i32 (22)), .ref 66]) rfl rfl rfl rfl ?_
      refine jx_ar (pc' := 174) (st' := [.int (i32 (0)), .int (i32 (0)), .int (i32 (r435)), .int (i32 (22)), .ref 66]) rfl rfl rfl rfl ?_
      refine jx_ar (pc' := 175) (st' := [.int (i32 (0)), .int (i32 (0)), .int (i32 (0)), .int (i32 (r435)), .int (i32 (22)), .ref 66]) rfl rfl rfl rfl ?_
      refine jx_vr (pc' := 178) (as := [.int (i32 (22)), .int (i32 (r435)), .int (i32 (0)), .int (i32 (0)), .int (i32 (0))]) (st := []) rfl rfl rfl rfl ⟨rfl, rfl, Nat.le_of_ble_eq_true rfl⟩ rfl rfl (c_node (dd := d) (hd := by omega) (hW := hW437) (kind := 22) (a := r435) (b := 0) (c := 0) (e := 0) (nd := nd2_436) (e_nd := show G433 31 = nd2_436 from (e440))  (h_kind := by omega) (h_a := by omega) (h_b := by omega) (h_c := by omega) (h_e := by omega)  (p_0 := by omega) (p_1 := by omega)) (fun o V' hq => ?_)
      obtain ⟨G445, A446, r447, nd2_448, rfl, rfl, hW449, hF450, b451, e452, p453, p454, -⟩ := hq
      have hF456 := Fr_tr hF444 hF450 (Fr_sub (by decide)) (Fr_sub (by decide))
      have bnd2_448 : (0 : Int) ≤ nd2_448 ∧ nd2_448 ≤ 6999 := e452 ▸ hW449.1 31
      refine .inr ⟨_, rfl, ?_⟩
      refine jx_ld (pc' := 180) (l' := jSto1 L 6 (.int (i32 (r447)))) (st' := []) rfl rfl ?_
      obtain ⟨L457, eL457⟩ : ∃ q, q = jSto1 L 6 (.int (i32 (r447))) := ⟨_, rfl⟩
      rw [← eL457]
      have gL457_0 : jGet L457 0 = some (.ref 66) := eL457 ▸ jg_ne (by decide) gL_0 rfl
      have gL457_2 : jGet L457 2 = some (.int (i32 (s))) := eL457 ▸ jg_ne (by decide) gL_2 rfl
      have gL457_4 : jGet L457 4 = some (.int (i32 (ix))) := eL457 ▸ jg_ne (by decide) gL_4 rfl
      have gL457_5 : jGet L457 5 = some (.int (i32 (row))) := eL457 ▸ jg_ne (by decide) gL_5 rfl
      have gL457_6 : jGet L457 6 = some (.int (i32 (r447))) := eL457 ▸ jg_eq
      have z458 := tz_f (tk1)
      exact at_180 L457 G445 A446 (r447) (at1) (tk1) (fk1) (nd2_448) (op1) gL457_0 gL457_6 hW449 hF456 (((hF450.1 10 rfl).trans ((hF438.1 10 rfl).trans (ex_at1)))) (((hF450.1 11 rfl).trans ((hF438.1 11 rfl).trans (ex_tk1)))) (((hF450.1 16 rfl).trans ((hF438.1 16 rfl).trans (ex_fk1)))) ((e452)) (((hF450.1 15 rfl).trans ((hF438.1 15 rfl).trans (ex_op1)))) (((hF450.1 9 rfl).trans ((hF438.1 9 rfl).trans (fx_9)))) (by omega) (by omega) (by omega) (by omega) (by omega) (by omega) (by omega) (by omega) (by omega)
  have at_110 : ∀ (L : jL) (Gx : Nat → Int) (Ax : Nat → Nat → Int) (pl s kd ix row at1 tk1 fk1 nd1 op1 : Int), jGet L 0 = some (.ref 66) → jGet L 1 = some (.int (i32 pl)) → jGet L 2 = some (.int (i32 s)) → jGet L 3 = some (.int (i32 kd)) → jGet L 4 = some (.int (i32 ix)) → jGet L 5 = some (.int (i32 row)) → Wk Gx Ax → Fr [9, 10, 11, 12, 13, 14, 15, 16, 17, 18, 31] [15, 16, 17, 18, 19, 20, 21, 22, 24, 28] G A Gx Ax → Gx 10 = at1 → Gx 11 = tk1 → Gx 16 = fk1 → Gx 31 = nd1 → Gx 15 = op1 → Gx 9 = ln → ((-2147483648 : Int) ≤ pl ∧ pl ≤ 2147483647) → ((-2147483648 : Int) ≤ s ∧ s ≤ 2147483647) → ((-2147483648 : Int) ≤ kd ∧ kd ≤ 2147483647) → ((-2147483648 : Int) ≤ ix ∧ ix ≤ 2147483647) → ((-2147483648 : Int) ≤ row ∧ row ≤ 2147483647) → (at0 ≤ at1) → (at1 ≤ le) → (nd ≤ nd1) → (op1 = op0) → (fk1 = 0) → (nd1 - nd ≤ (2 * at1 - tz tk1) - (2 * at0 - tz tk0) - 1) → (0 ≤ s ∧ s ≤ 201) → (-3000 ≤ pl ∧ pl ≤ 3002) → (0 ≤ row ∧ row ≤ 1) → wj X d jm304 (110, L, [], rV c0 c1 Gx Ax T) (fun o V' => ∃ (G' : Nat → Int) (A' : Nat → Nat → Int) (r : Int) (at2 : Int) (fk2 : Int) (nd2 : Int) (ln2 : Int), V' = rV c0 c1 G' A' T ∧ o = .inl (some (.int (i32 r))) ∧ Wk G' A' ∧ Fr [9, 10, 11, 12, 13, 14, 15, 16, 17, 18, 31] [15, 16, 17, 18, 19, 20, 21, 22, 24, 28] G A G' A' ∧ ((-2147483648 : Int) ≤ r ∧ r ≤ 2147483647) ∧ G' 10 = at2 ∧ G' 16 = fk2 ∧ G' 31 = nd2 ∧ G' 9 = ln2 ∧ (at0 ≤ at2) ∧ (at2 ≤ le) ∧ (nd ≤ nd2) ∧ (0 ≤ r) ∧ (r ≤ nd2) ∧ (((1 ≤ fk2) ∧ (ln2 = ln) ∧ (nd2 - nd ≤ 2 * at2 - 2 * at0 + 8)) ∨ ((fk2 = 0) ∧ (ln2 = ln + 1) ∧ (nd2 - nd ≤ 2 * at2 - (2 * at0 - tz tk0) + 0)))) := by
    intro L Gx Ax pl s kd ix row at1 tk1 fk1 nd1 op1 gL_0 gL_1 gL_2 gL_3 gL_4 gL_5 hWx hFx ex_at1 ex_tk1 ex_fk1 ex_nd1 ex_op1 fx_9 rx_pl rx_s rx_kd rx_ix rx_row iv_0 iv_1 iv_2 iv_3 iv_4 iv_5 iv_6 iv_7 iv_8
    have b_at1 : (0 : Int) ≤ at1 ∧ at1 ≤ 3002 := ex_at1 ▸ hWx.1 10
    have z_tk1 := tz_f tk1
    have b_tk1 : (0 : Int) ≤ tk1 ∧ tk1 ≤ 5 := ex_tk1 ▸ hWx.1 11
    have b_fk1 : (0 : Int) ≤ fk1 ∧ fk1 ≤ 6 := ex_fk1 ▸ hWx.1 16
    have b_nd1 : (0 : Int) ≤ nd1 ∧ nd1 ≤ 6999 := ex_nd1 ▸ hWx.1 31
    have b_op1 : (-2147483648 : Int) ≤ op1 ∧ op1 ≤ 2147483647 := ex_op1 ▸ hWx.1 15
    refine jx_ld (pc' := 111) (l' := L) (st' := [.ref 66]) rfl (jl_aloadn gL_0) ?_
    refine jx_ar (pc' := 114) (st' := [.int (i32 (300)), .ref 66]) rfl rfl rfl rfl ?_
    have b459 : (-2147483648 : Int) ≤ Gx 13 ∧ Gx 13 ≤ 2147483647 := hWx.1 13
    refine jx_vr (pc' := 117) (as := [.int (i32 (300))]) (st := []) rfl rfl rfl rfl ⟨rfl, rfl, Nat.le_of_ble_eq_true rfl⟩ rfl rfl (c_is (dd := d) (hd := by omega) (hW := hWx) (k := 300) (tk := tk1) (e_tk := show Gx 11 = tk1 from (ex_tk1)) (tn := Gx 13) (e_tn := show Gx 13 = Gx 13 from rfl)  (h_k := by omega)  ) (fun o V' hq => ?_)
    obtain ⟨r460, rfl, rfl, b461, q462⟩ := hq
    refine .inr ⟨_, rfl, ?_⟩
    rcases q462 with ⟨rfl, a463, a464, a465⟩ | rfl
    · have _q : True := trivial
      refine jx_if_eq (pc' := 120) (tg := 202) rfl rfl rfl (by omega) (by omega) (fun h466 => ?_) (fun h466 => ?_)
      · have _q := h466
        exact absurd h466 (by omega)
      · have _q := h466
        refine jx_ld (pc' := 122) (l' := L) (st' := [.int (i32 (row))]) rfl (jl_iload gL_5) ?_
        refine jx_if_eq (pc' := 125) (tg := 135) rfl rfl rfl (by omega) (by omega) (fun h467 => ?_) (fun h467 => ?_)
        · have _q := h467
          refine jx_ld (pc' := 136) (l' := L) (st' := [.int (i32 (kd))]) rfl (jl_iloadn gL_3) ?_
          refine jx_st (pc' := 139) (as := [.int (i32 (kd))]) (st := []) rfl rfl ⟨rfl, Nat.le_of_ble_eq_true rfl⟩ rfl rfl rfl (c_isVariable (dd := d) (hd := by omega) (k := kd)   (h_k := by omega)  ) (fun o V' hq => ?_)
          obtain ⟨r468, rfl, rfl, b469, q470⟩ := hq
          refine .inr ⟨_, rfl, ?_⟩
          rcases q470 with rfl | rfl
          · have _q : True := trivial
            refine jx_if_ne (pc' := 142) (tg := 150) rfl rfl rfl (by omega) (by omega) (fun h471 => ?_) (fun h471 => ?_)
            · have _q := h471
              have z472 := tz_f (tk1)
              exact at_150 L Gx Ax (s) (ix) (row) (at1) (tk1) (fk1) (nd1) (op1) gL_0 gL_2 gL_4 gL_5 hWx hFx ((ex_at1)) ((ex_tk1)) ((ex_fk1)) ((ex_nd1)) ((ex_op1)) ((fx_9)) (by omega) (by omega) (by omega) (by omega) (by omega) (by omega) (by omega) (by omega) (by omega) (by omega) (by omega)
            · have _q := h471
              exact absurd h471 (by omega)
          · have _q : True := trivial
            refine jx_if_ne (pc' := 142) (tg := 150) rfl rfl rfl (by omega) (by omega) (fun h473 => ?_) (fun h473 => ?_)
            · have _q := h473
              exact absurd h473 (by omega)
            · have _q := h473
              refine jx_ld (pc' := 143) (l' := L) (st' := [.ref 66]) rfl (jl_aloadn gL_0) ?_
              refine jx_ar (pc' := 144) (st' := [.int (i32 (4)), .ref 66]) rfl rfl rfl rfl ?_
              refine jx_ld (pc' := 145) (l' := L) (st' := [.int (i32 (pl)), .int (i32 (4)), .ref 66]) rfl (jl_iloadn gL_1) ?_
              refine jx_vr (pc' := 148) (as := [.int (i32 (4)), .int (i32 (pl))]) (st := []) rfl rfl rfl rfl ⟨rfl, rfl, Nat.le_of_ble_eq_true rfl⟩ rfl rfl (c_fail (dd := d) (hd := by omega) (hW := hWx) (kind := 4) (place := pl) (fk := fk1) (e_fk := show Gx 16 = fk1 from (ex_fk1))  (h_kind := by omega) (h_place := by omega)  (p_0 := by omega) (p_1 := by omega)) (fun o V' hq => ?_)
              obtain ⟨G474, A475, fk2_476, rfl, rfl, hW477, hF478, e479, p480, -⟩ := hq
              have hF482 := Fr_tr hFx hF478 (Fr_sub (by decide)) (Fr_sub (by decide))
              have bfk2_476 : (0 : Int) ≤ fk2_476 ∧ fk2_476 ≤ 6 := e479 ▸ hW477.1 16
              refine .inl ⟨rfl, ?_⟩
              refine jx_ar (pc' := 149) (st' := [.int (i32 (0))]) rfl rfl rfl rfl ?_
              refine jx_rt (v := some (.int (i32 (0)))) rfl rfl rfl rfl rfl rfl ?_
              exact ⟨_, _, _, at1, fk2_476, nd1, ln, rfl, rfl, hW477, hF482, by omega, ((hF478.1 10 rfl).trans (ex_at1)), (e479), ((hF478.1 31 rfl).trans (ex_nd1)), ((hF478.1 9 rfl).trans (fx_9)), by omega, by omega, by omega, by omega, by omega, by first | exact Or.inl (⟨by omega, by omega, by omega⟩) | exact Or.inr ((⟨by omega, by omega, by omega⟩))⟩
        · have _q := h467
          refine jx_ld (pc' := 126) (l' := L) (st' := [.int (i32 (kd))]) rfl (jl_iloadn gL_3) ?_
          refine jx_st (pc' := 129) (as := [.int (i32 (kd))]) (st := []) rfl rfl ⟨rfl, Nat.le_of_ble_eq_true rfl⟩ rfl rfl rfl (c_isArray (dd := d) (hd := by omega) (k := kd)   (h_k := by omega)  ) (fun o V' hq => ?_)
          obtain ⟨r483, rfl, rfl, b484, q485⟩ := hq
          refine .inr ⟨_, rfl, ?_⟩
          rcases q485 with rfl | rfl
          · have _q : True := trivial
            refine jx_if_ne (pc' := 132) (tg := 150) rfl rfl rfl (by omega) (by omega) (fun h486 => ?_) (fun h486 => ?_)
            · have _q := h486
              have z487 := tz_f (tk1)
              exact at_150 L Gx Ax (s) (ix) (row) (at1) (tk1) (fk1) (nd1) (op1) gL_0 gL_2 gL_4 gL_5 hWx hFx ((ex_at1)) ((ex_tk1)) ((ex_fk1)) ((ex_nd1)) ((ex_op1)) ((fx_9)) (by omega) (by omega) (by omega) (by omega) (by omega) (by omega) (by omega) (by omega) (by omega) (by omega) (by omega)
            · have _q := h486
              exact absurd h486 (by omega)
          · have _q : True := trivial
            refine jx_if_ne (pc' := 132) (tg := 150) rfl rfl rfl (by omega) (by omega) (fun h488 => ?_) (fun h488 => ?_)
            · have _q := h488
              exact absurd h488 (by omega)
            · have _q := h488
              refine jx_go (tg := 142) rfl rfl ?_
              refine jx_ld (pc' := 143) (l' := L) (st' := [.ref 66]) rfl (jl_aloadn gL_0) ?_
              refine jx_ar (pc' := 144) (st' := [.int (i32 (4)), .ref 66]) rfl rfl rfl rfl ?_
              refine jx_ld (pc' := 145) (l' := L) (st' := [.int (i32 (pl)), .int (i32 (4)), .ref 66]) rfl (jl_iloadn gL_1) ?_
              refine jx_vr (pc' := 148) (as := [.int (i32 (4)), .int (i32 (pl))]) (st := []) rfl rfl rfl rfl ⟨rfl, rfl, Nat.le_of_ble_eq_true rfl⟩ rfl rfl (c_fail (dd := d) (hd := by omega) (hW := hWx) (kind := 4) (place := pl) (fk := fk1) (e_fk := show Gx 16 = fk1 from (ex_fk1))  (h_kind := by omega) (h_place := by omega)  (p_0 := by omega) (p_1 := by omega)) (fun o V' hq => ?_)
              obtain ⟨G489, A490, fk2_491, rfl, rfl, hW492, hF493, e494, p495, -⟩ := hq
              have hF497 := Fr_tr hFx hF493 (Fr_sub (by decide)) (Fr_sub (by decide))
              have bfk2_491 : (0 : Int) ≤ fk2_491 ∧ fk2_491 ≤ 6 := e494 ▸ hW492.1 16
              refine .inl ⟨rfl, ?_⟩
              refine jx_ar (pc' := 149) (st' := [.int (i32 (0))]) rfl rfl rfl rfl ?_
              refine jx_rt (v := some (.int (i32 (0)))) rfl rfl rfl rfl rfl rfl ?_
              exact ⟨_, _, _, at1, fk2_491, nd1, ln, rfl, rfl, hW492, hF497, by omega, ((hF493.1 10 rfl).trans (ex_at1)), (e494), ((hF493.1 31 rfl).trans (ex_nd1)), ((hF493.1 9 rfl).trans (fx_9)), by omega, by omega, by omega, by omega, by omega, by first | exact Or.inl (⟨by omega, by omega, by omega⟩) | exact Or.inr ((⟨by omega, by omega, by omega⟩))⟩
    · have _q : True := trivial
      refine jx_if_eq (pc' := 120) (tg := 202) rfl rfl rfl (by omega) (by omega) (fun h498 => ?_) (fun h498 => ?_)
      · have _q := h498
        refine jx_ld (pc' := 203) (l' := L) (st' := [.ref 66]) rfl (jl_aloadn gL_0) ?_
        refine jx_ar (pc' := 205) (st' := [.int (i32 (33)), .ref 66]) rfl rfl rfl rfl ?_
        refine jx_vr (pc' := 208) (as := [.int (i32 (33))]) (st := []) rfl rfl rfl rfl ⟨rfl, rfl, Nat.le_of_ble_eq_true rfl⟩ rfl rfl (c_is (dd := d) (hd := by omega) (hW := hWx) (k := 33) (tk := tk1) (e_tk := show Gx 11 = tk1 from (ex_tk1)) (tn := Gx 13) (e_tn := show Gx 13 = Gx 13 from rfl)  (h_k := by omega)  ) (fun o V' hq => ?_)
        obtain ⟨r499, rfl, rfl, b500, q501⟩ := hq
        refine .inr ⟨_, rfl, ?_⟩
        rcases q501 with ⟨rfl, a502, a503, a504⟩ | rfl
        · have _q : True := trivial
          refine jx_if_ne (pc' := 211) (tg := 231) rfl rfl rfl (by omega) (by omega) (fun h505 => ?_) (fun h505 => ?_)
          · have _q := h505
            have z506 := tz_f (tk1)
            exact at_231 L Gx Ax (pl) (s) (kd) (ix) (row) (at1) (tk1) (fk1) (nd1) (op1) gL_0 gL_1 gL_2 gL_3 gL_4 gL_5 hWx hFx ((ex_at1)) ((ex_tk1)) ((ex_fk1)) ((ex_nd1)) ((ex_op1)) ((fx_9)) (by omega) (by omega) (by omega) (by omega) (by omega) (by omega) (by omega) (by omega) (by omega) (by omega) (by omega) (by omega) (by omega) (by omega)
          · have _q := h505
            exact absurd h505 (by omega)
        · have _q : True := trivial
          refine jx_if_ne (pc' := 211) (tg := 231) rfl rfl rfl (by omega) (by omega) (fun h507 => ?_) (fun h507 => ?_)
          · have _q := h507
            exact absurd h507 (by omega)
          · have _q := h507
            refine jx_ld (pc' := 212) (l' := L) (st' := [.ref 66]) rfl (jl_aloadn gL_0) ?_
            refine jx_ar (pc' := 214) (st' := [.int (i32 (63)), .ref 66]) rfl rfl rfl rfl ?_
            refine jx_vr (pc' := 217) (as := [.int (i32 (63))]) (st := []) rfl rfl rfl rfl ⟨rfl, rfl, Nat.le_of_ble_eq_true rfl⟩ rfl rfl (c_is (dd := d) (hd := by omega) (hW := hWx) (k := 63) (tk := tk1) (e_tk := show Gx 11 = tk1 from (ex_tk1)) (tn := Gx 13) (e_tn := show Gx 13 = Gx 13 from rfl)  (h_k := by omega)  ) (fun o V' hq => ?_)
            obtain ⟨r508, rfl, rfl, b509, q510⟩ := hq
            refine .inr ⟨_, rfl, ?_⟩
            rcases q510 with ⟨rfl, a511, a512, a513⟩ | rfl
            · have _q : True := trivial
              refine jx_if_ne (pc' := 220) (tg := 231) rfl rfl rfl (by omega) (by omega) (fun h514 => ?_) (fun h514 => ?_)
              · have _q := h514
                have z515 := tz_f (tk1)
                exact at_231 L Gx Ax (pl) (s) (kd) (ix) (row) (at1) (tk1) (fk1) (nd1) (op1) gL_0 gL_1 gL_2 gL_3 gL_4 gL_5 hWx hFx ((ex_at1)) ((ex_tk1)) ((ex_fk1)) ((ex_nd1)) ((ex_op1)) ((fx_9)) (by omega) (by omega) (by omega) (by omega) (by omega) (by omega) (by omega) (by omega) (by omega) (by omega) (by omega) (by omega) (by omega) (by omega)
              · have _q := h514
                exact absurd h514 (by omega)
            · have _q : True := trivial
              refine jx_if_ne (pc' := 220) (tg := 231) rfl rfl rfl (by omega) (by omega) (fun h516 => ?_) (fun h516 => ?_)
              · have _q := h516
                exact absurd h516 (by omega)
              · have _q := h516
                refine jx_ld (pc' := 221) (l' := L) (st' := [.ref 66]) rfl (jl_aloadn gL_0) ?_
                refine jx_ar (pc' := 222) (st' := [.int (i32 (1)), .ref 66]) rfl rfl rfl rfl ?_
                refine jx_ld (pc' := 223) (l' := L) (st' := [.ref 66, .int (i32 (1)), .ref 66]) rfl (jl_aloadn gL_0) ?_
                have b517 : (-3000 : Int) ≤ Gx 12 ∧ Gx 12 ≤ 3002 := hWx.1 12
                refine jr_get (pc' := 226) (i := 12) (v := .int (i32 (Gx 12))) rfl rfl (by decide) rfl rfl ?_
                refine jx_vr (pc' := 229) (as := [.int (i32 (1)), .int (i32 (Gx 12))]) (st := []) rfl rfl rfl rfl ⟨rfl, rfl, Nat.le_of_ble_eq_true rfl⟩ rfl rfl (c_fail (dd := d) (hd := by omega) (hW := hWx) (kind := 1) (place := Gx 12) (fk := fk1) (e_fk := show Gx 16 = fk1 from (ex_fk1))  (h_kind := by omega) (h_place := by omega)  (p_0 := by omega) (p_1 := by omega)) (fun o V' hq => ?_)
                obtain ⟨G518, A519, fk2_520, rfl, rfl, hW521, hF522, e523, p524, -⟩ := hq
                have hF526 := Fr_tr hFx hF522 (Fr_sub (by decide)) (Fr_sub (by decide))
                have bfk2_520 : (0 : Int) ≤ fk2_520 ∧ fk2_520 ≤ 6 := e523 ▸ hW521.1 16
                refine .inl ⟨rfl, ?_⟩
                refine jx_ar (pc' := 230) (st' := [.int (i32 (0))]) rfl rfl rfl rfl ?_
                refine jx_rt (v := some (.int (i32 (0)))) rfl rfl rfl rfl rfl rfl ?_
                exact ⟨_, _, _, at1, fk2_520, nd1, ln, rfl, rfl, hW521, hF526, by omega, ((hF522.1 10 rfl).trans (ex_at1)), (e523), ((hF522.1 31 rfl).trans (ex_nd1)), ((hF522.1 9 rfl).trans (fx_9)), by omega, by omega, by omega, by omega, by omega, by first | exact Or.inl (⟨by omega, by omega, by omega⟩) | exact Or.inr ((⟨by omega, by omega, by omega⟩))⟩
      · have _q := h498
        exact absurd h498 (by omega)
  refine jx_ld (pc' := 1) (l' := [(0, .ref 66)]) (st' := [.ref 66]) rfl (jl_aloadn rfl) ?_
  have b527 : (-3000 : Int) ≤ G 12 ∧ G 12 ≤ 3002 := hW.1 12
  refine jr_get (pc' := 4) (i := 12) (v := .int (i32 (G 12))) rfl rfl (by decide) rfl rfl ?_
  refine jx_ld (pc' := 5) (l' := jSto1 [(0, .ref 66)] 1 (.int (i32 (G 12)))) (st' := []) rfl rfl ?_
  obtain ⟨L528, eL528⟩ : ∃ q, q = jSto1 [(0, .ref 66)] 1 (.int (i32 (G 12))) := ⟨_, rfl⟩
  rw [← eL528]
  have gL528_0 : jGet L528 0 = some (.ref 66) := eL528 ▸ jg_ne (by decide) (rfl : jGet [(0, .ref 66)] 0 = some (.ref 66)) rfl
  have gL528_1 : jGet L528 1 = some (.int (i32 (G 12))) := eL528 ▸ jg_eq
  refine jx_ld (pc' := 6) (l' := L528) (st' := [.ref 66]) rfl (jl_aloadn gL528_0) ?_
  refine jx_vr (pc' := 9) (as := []) (st := []) rfl rfl rfl rfl ⟨rfl, rfl, Nat.le_of_ble_eq_true rfl⟩ rfl rfl (c_lookUp (dd := d) (hd := by omega) (hW := hW)  (fk := fk) (e_fk := show G 16 = fk from (e_fk))    ) (fun o V' hq => ?_)
  obtain ⟨G529, A530, r531, fk2_532, rfl, rfl, hW533, hF534, b535, e536, q537⟩ := hq
  have hF538 := Fr_tr hF0 hF534 (Fr_sub (by decide)) (Fr_sub (by decide))
  have bfk2_532 : (0 : Int) ≤ fk2_532 ∧ fk2_532 ≤ 6 := e536 ▸ hW533.1 16
  refine .inr ⟨_, rfl, ?_⟩
  rcases q537 with ⟨a539, a540⟩ | ⟨a541, a542, a543⟩
  · have _q : True := trivial
    refine jx_ld (pc' := 10) (l' := jSto1 L528 2 (.int (i32 (r531)))) (st' := []) rfl rfl ?_
    obtain ⟨L544, eL544⟩ : ∃ q, q = jSto1 L528 2 (.int (i32 (r531))) := ⟨_, rfl⟩
    rw [← eL544]
    have gL544_0 : jGet L544 0 = some (.ref 66) := eL544 ▸ jg_ne (by decide) gL528_0 rfl
    have gL544_1 : jGet L544 1 = some (.int (i32 (G 12))) := eL544 ▸ jg_ne (by decide) gL528_1 rfl
    have gL544_2 : jGet L544 2 = some (.int (i32 (r531))) := eL544 ▸ jg_eq
    refine jx_ld (pc' := 11) (l' := L544) (st' := [.ref 66]) rfl (jl_aloadn gL544_0) ?_
    refine jx_vr (pc' := 14) (as := []) (st := []) rfl rfl rfl rfl ⟨rfl, rfl, Nat.le_of_ble_eq_true rfl⟩ rfl rfl (c_bad (dd := d) (hd := by omega) (hW := hW533)  (fk := fk2_532) (e_fk := show G529 16 = fk2_532 from (e536))    ) (fun o V' hq => ?_)
    obtain ⟨r545, rfl, rfl, b546, q547⟩ := hq
    refine .inr ⟨_, rfl, ?_⟩
    rcases q547 with ⟨rfl, a548⟩ | ⟨rfl, a549⟩
    · have _q : True := trivial
      refine jx_if_eq (pc' := 17) (tg := 19) rfl rfl rfl (by omega) (by omega) (fun h550 => ?_) (fun h550 => ?_)
      · have _q := h550
        exact absurd h550 (by omega)
      · have _q := h550
        refine jx_ar (pc' := 18) (st' := [.int (i32 (0))]) rfl rfl rfl rfl ?_
        refine jx_rt (v := some (.int (i32 (0)))) rfl rfl rfl rfl rfl rfl ?_
        exact ⟨_, _, _, at0, fk2_532, nd, ln, rfl, rfl, hW533, hF538, by omega, ((hF534.1 10 rfl).trans (e_at0)), (e536), ((hF534.1 31 rfl).trans (e_nd)), ((hF534.1 9 rfl).trans (e_ln)), by omega, by omega, by omega, by omega, by omega, by first | exact Or.inl (⟨by omega, by omega, by omega⟩) | exact Or.inr ((⟨by omega, by omega, by omega⟩))⟩
    · have _q : True := trivial
      exfalso
      omega
  · have _q : True := trivial
    refine jx_ld (pc' := 10) (l' := jSto1 L528 2 (.int (i32 (r531)))) (st' := []) rfl rfl ?_
    obtain ⟨L551, eL551⟩ : ∃ q, q = jSto1 L528 2 (.int (i32 (r531))) := ⟨_, rfl⟩
    rw [← eL551]
    have gL551_0 : jGet L551 0 = some (.ref 66) := eL551 ▸ jg_ne (by decide) gL528_0 rfl
    have gL551_1 : jGet L551 1 = some (.int (i32 (G 12))) := eL551 ▸ jg_ne (by decide) gL528_1 rfl
    have gL551_2 : jGet L551 2 = some (.int (i32 (r531))) := eL551 ▸ jg_eq
    refine jx_ld (pc' := 11) (l' := L551) (st' := [.ref 66]) rfl (jl_aloadn gL551_0) ?_
    refine jx_vr (pc' := 14) (as := []) (st := []) rfl rfl rfl rfl ⟨rfl, rfl, Nat.le_of_ble_eq_true rfl⟩ rfl rfl (c_bad (dd := d) (hd := by omega) (hW := hW533)  (fk := fk2_532) (e_fk := show G529 16 = fk2_532 from (e536))    ) (fun o V' hq => ?_)
    obtain ⟨r552, rfl, rfl, b553, q554⟩ := hq
    refine .inr ⟨_, rfl, ?_⟩
    rcases q554 with ⟨rfl, a555⟩ | ⟨rfl, a556⟩
    · have _q : True := trivial
      exfalso
      omega
    · have _q : True := trivial
      refine jx_if_eq (pc' := 17) (tg := 19) rfl rfl rfl (by omega) (by omega) (fun h557 => ?_) (fun h557 => ?_)
      · have _q := h557
        refine jx_ld (pc' := 20) (l' := L551) (st' := [.ref 66]) rfl (jl_aloadn gL551_0) ?_
        refine jr_get (pc' := 23) (i := 21) (v := .ref 74) rfl rfl (by decide) rfl rfl ?_
        refine jx_ld (pc' := 24) (l' := L551) (st' := [.int (i32 (r531)), .ref 74]) rfl (jl_iloadn gL551_2) ?_
        have b558 : (0 : Int) ≤ A 7 (r531).toNat ∧ A 7 (r531).toNat ≤ 14 := hW.2 7 _
        refine jr_ldv (pc' := 25) (i := 7) (m := 260) (z := r531) (y := A 7 (r531).toNat) rfl (by decide) rfl (by decide) (by omega) (by omega) rfl (show A530 7 (r531).toNat = A 7 (r531).toNat from (congrFun (hF534.2 7 rfl) _)) ?_
        refine jx_ld (pc' := 26) (l' := jSto1 L551 3 (.int (i32 (A 7 (r531).toNat)))) (st' := []) rfl rfl ?_
        obtain ⟨L559, eL559⟩ : ∃ q, q = jSto1 L551 3 (.int (i32 (A 7 (r531).toNat))) := ⟨_, rfl⟩
        rw [← eL559]
        have gL559_0 : jGet L559 0 = some (.ref 66) := eL559 ▸ jg_ne (by decide) gL551_0 rfl
        have gL559_1 : jGet L559 1 = some (.int (i32 (G 12))) := eL559 ▸ jg_ne (by decide) gL551_1 rfl
        have gL559_2 : jGet L559 2 = some (.int (i32 (r531))) := eL559 ▸ jg_ne (by decide) gL551_2 rfl
        have gL559_3 : jGet L559 3 = some (.int (i32 (A 7 (r531).toNat))) := eL559 ▸ jg_eq
        refine jx_ld (pc' := 27) (l' := L559) (st' := [.ref 66]) rfl (jl_aloadn gL559_0) ?_
        refine jx_vr (pc' := 30) (as := []) (st := []) rfl rfl rfl rfl ⟨rfl, rfl, Nat.le_of_ble_eq_true rfl⟩ rfl rfl (c_next (dd := d) (hd := by omega) (hW := hW533)  (ln := ln) (e_ln := show G529 9 = ln from ((hF534.1 9 rfl).trans (e_ln))) (le := le) (e_le := show A530 4 (ln).toNat = le from (congrFun (hF534.2 4 rfl) _).trans (e_le)) (at0 := at0) (e_at0 := show G529 10 = at0 from ((hF534.1 10 rfl).trans (e_at0)))    (p_0 := by omega)) (fun o V' hq => ?_)
        obtain ⟨G560, A561, at2_562, tk2_563, rfl, rfl, hW564, hF565, e566, e567, p568, p569, p570, -⟩ := hq
        have hF572 := Fr_tr hF538 hF565 (Fr_sub (by decide)) (Fr_sub (by decide))
        have bat2_562 : (0 : Int) ≤ at2_562 ∧ at2_562 ≤ 3002 := e566 ▸ hW564.1 10
        have ztk2_563 := tz_b tk2_563
        have btk2_563 : (0 : Int) ≤ tk2_563 ∧ tk2_563 ≤ 5 := e567 ▸ hW564.1 11
        refine .inl ⟨rfl, ?_⟩
        refine jx_ld (pc' := 31) (l' := L559) (st' := [.ref 66]) rfl (jl_aloadn gL559_0) ?_
        refine jx_ar (pc' := 33) (st' := [.int (i32 (40)), .ref 66]) rfl rfl rfl rfl ?_
        have b573 : (-2147483648 : Int) ≤ G560 13 ∧ G560 13 ≤ 2147483647 := hW564.1 13
        refine jx_vr (pc' := 36) (as := [.int (i32 (40))]) (st := []) rfl rfl rfl rfl ⟨rfl, rfl, Nat.le_of_ble_eq_true rfl⟩ rfl rfl (c_is (dd := d) (hd := by omega) (hW := hW564) (k := 40) (tk := tk2_563) (e_tk := show G560 11 = tk2_563 from (e567)) (tn := G560 13) (e_tn := show G560 13 = G560 13 from rfl)  (h_k := by omega)  ) (fun o V' hq => ?_)
        obtain ⟨r574, rfl, rfl, b575, q576⟩ := hq
        refine .inr ⟨_, rfl, ?_⟩
        rcases q576 with ⟨rfl, a577, a578, a579⟩ | rfl
        · have _q : True := trivial
          refine jx_if_eq (pc' := 39) (tg := 59) rfl rfl rfl (by omega) (by omega) (fun h580 => ?_) (fun h580 => ?_)
          · have _q := h580
            exact absurd h580 (by omega)
          · have _q := h580
            refine jx_ld (pc' := 40) (l' := L559) (st' := [.int (i32 (A 7 (r531).toNat))]) rfl (jl_iloadn gL559_3) ?_
            refine jx_ar (pc' := 42) (st' := [.int (i32 (14)), .int (i32 (A 7 (r531).toNat))]) rfl rfl rfl rfl ?_
            refine jx_icmp_eq (pc' := 45) (tg := 53) rfl rfl rfl (by omega) (by omega) (by omega) (by omega) (fun h581 => ?_) (fun h581 => ?_)
            · have _q := h581
              refine jx_ld (pc' := 54) (l' := L559) (st' := [.ref 66]) rfl (jl_aloadn gL559_0) ?_
              refine jx_ld (pc' := 55) (l' := L559) (st' := [.int (i32 (r531)), .ref 66]) rfl (jl_iloadn gL559_2) ?_
              refine jx_vr (pc' := 58) (as := [.int (i32 (r531))]) (st := []) rfl rfl rfl rfl ⟨rfl, rfl, Nat.le_of_ble_eq_true rfl⟩ rfl rfl (c_readCall (dd := d) (hd := by omega) (hW := hW564) (s := r531) (ln := ln) (e_ln := show G560 9 = ln from ((hF565.1 9 rfl).trans ((hF534.1 9 rfl).trans (e_ln)))) (le := le) (e_le := show A561 4 (ln).toNat = le from (congrFun ((hF565.2 4 rfl).trans (hF534.2 4 rfl)) _).trans (e_le)) (at0 := at2_562) (e_at0 := show G560 10 = at2_562 from (e566)) (fk := fk2_532) (e_fk := show G560 16 = fk2_532 from ((hF565.1 16 rfl).trans (e536))) (op0 := op0) (e_op0 := show G560 15 = op0 from ((hF565.1 15 rfl).trans ((hF534.1 15 rfl).trans (e_op0)))) (nd := nd) (e_nd := show G560 31 = nd from ((hF565.1 31 rfl).trans ((hF534.1 31 rfl).trans (e_nd)))) (tk0 := tk2_563) (e_tk0 := show G560 11 = tk2_563 from (e567)) (li := li) (e_li := show G560 3 = li from ((hF565.1 3 rfl).trans ((hF534.1 3 rfl).trans (e_li))))  (h_s := by omega)  (p_0 := by omega) (p_1 := by omega) (p_2 := by omega) (p_3 := by omega) (p_4 := by omega) (p_5 := by omega) (p_6 := by omega)) (fun o V' hq => ?_)
              obtain ⟨G582, A583, r584, at2_585, fk2_586, nd2_587, ln2_588, rfl, rfl, hW589, hF590, b591, e592, e593, e594, e595, p596, p597, p598, p599, p600, q601⟩ := hq
              have hF602 := Fr_tr hF572 hF590 (Fr_sub (by decide)) (Fr_sub (by decide))
              have bat2_585 : (0 : Int) ≤ at2_585 ∧ at2_585 ≤ 3002 := e592 ▸ hW589.1 10
              have bfk2_586 : (0 : Int) ≤ fk2_586 ∧ fk2_586 ≤ 6 := e593 ▸ hW589.1 16
              have bnd2_587 : (0 : Int) ≤ nd2_587 ∧ nd2_587 ≤ 6999 := e594 ▸ hW589.1 31
              have bln2_588 : (0 : Int) ≤ ln2_588 ∧ ln2_588 ≤ 3000 := e595 ▸ hW589.1 9
              refine .inr ⟨_, rfl, ?_⟩
              rcases q601 with ⟨a603, a604, a605⟩ | ⟨a606, a607, a608⟩
              · have _q : True := trivial
                refine jx_rt (v := some (.int (i32 (r584)))) rfl rfl rfl rfl rfl rfl ?_
                exact ⟨_, _, _, at2_585, fk2_586, nd2_587, ln2_588, rfl, rfl, hW589, hF602, by omega, (e592), (e593), (e594), (e595), by omega, by omega, by omega, by omega, by omega, by first | exact Or.inl (⟨by omega, by omega, by omega⟩) | exact Or.inr ((⟨by omega, by omega, by omega⟩))⟩
              · have _q : True := trivial
                refine jx_rt (v := some (.int (i32 (r584)))) rfl rfl rfl rfl rfl rfl ?_
                exact ⟨_, _, _, at2_585, fk2_586, nd2_587, ln2_588, rfl, rfl, hW589, hF602, by omega, (e592), (e593), (e594), (e595), by omega, by omega, by omega, by omega, by omega, by first | exact Or.inl (⟨by omega, by omega, by omega⟩) | exact Or.inr ((⟨by omega, by omega, by omega⟩))⟩
            · have _q := h581
              refine jx_ld (pc' := 46) (l' := L559) (st' := [.ref 66]) rfl (jl_aloadn gL559_0) ?_
              refine jx_ar (pc' := 47) (st' := [.int (i32 (4)), .ref 66]) rfl rfl rfl rfl ?_
              refine jx_ld (pc' := 48) (l' := L559) (st' := [.int (i32 (G 12)), .int (i32 (4)), .ref 66]) rfl (jl_iloadn gL559_1) ?_
              refine jx_vr (pc' := 51) (as := [.int (i32 (4)), .int (i32 (G 12))]) (st := []) rfl rfl rfl rfl ⟨rfl, rfl, Nat.le_of_ble_eq_true rfl⟩ rfl rfl (c_fail (dd := d) (hd := by omega) (hW := hW564) (kind := 4) (place := G 12) (fk := fk2_532) (e_fk := show G560 16 = fk2_532 from ((hF565.1 16 rfl).trans (e536)))  (h_kind := by omega) (h_place := by omega)  (p_0 := by omega) (p_1 := by omega)) (fun o V' hq => ?_)
              obtain ⟨G609, A610, fk2_611, rfl, rfl, hW612, hF613, e614, p615, -⟩ := hq
              have hF617 := Fr_tr hF572 hF613 (Fr_sub (by decide)) (Fr_sub (by decide))
              have bfk2_611 : (0 : Int) ≤ fk2_611 ∧ fk2_611 ≤ 6 := e614 ▸ hW612.1 16
              refine .inl ⟨rfl, ?_⟩
              refine jx_ar (pc' := 52) (st' := [.int (i32 (0))]) rfl rfl rfl rfl ?_
              refine jx_rt (v := some (.int (i32 (0)))) rfl rfl rfl rfl rfl rfl ?_
              exact ⟨_, _, _, at2_562, fk2_611, nd, ln, rfl, rfl, hW612, hF617, by omega, ((hF613.1 10 rfl).trans (e566)), (e614), ((hF613.1 31 rfl).trans ((hF565.1 31 rfl).trans ((hF534.1 31 rfl).trans (e_nd)))), ((hF613.1 9 rfl).trans ((hF565.1 9 rfl).trans ((hF534.1 9 rfl).trans (e_ln)))), by omega, by omega, by omega, by omega, by omega, by first | exact Or.inl (⟨by omega, by omega, by omega⟩) | exact Or.inr ((⟨by omega, by omega, by omega⟩))⟩
        · have _q : True := trivial
          refine jx_if_eq (pc' := 39) (tg := 59) rfl rfl rfl (by omega) (by omega) (fun h618 => ?_) (fun h618 => ?_)
          · have _q := h618
            refine jx_ar (pc' := 60) (st' := [.int (i32 (0))]) rfl rfl rfl rfl ?_
            refine jx_ld (pc' := 62) (l' := jSto1 L559 4 (.int (i32 (0)))) (st' := []) rfl rfl ?_
            obtain ⟨L619, eL619⟩ : ∃ q, q = jSto1 L559 4 (.int (i32 (0))) := ⟨_, rfl⟩
            rw [← eL619]
            have gL619_0 : jGet L619 0 = some (.ref 66) := eL619 ▸ jg_ne (by decide) gL559_0 rfl
            have gL619_1 : jGet L619 1 = some (.int (i32 (G 12))) := eL619 ▸ jg_ne (by decide) gL559_1 rfl
            have gL619_2 : jGet L619 2 = some (.int (i32 (r531))) := eL619 ▸ jg_ne (by decide) gL559_2 rfl
            have gL619_3 : jGet L619 3 = some (.int (i32 (A 7 (r531).toNat))) := eL619 ▸ jg_ne (by decide) gL559_3 rfl
            have gL619_4 : jGet L619 4 = some (.int (i32 (0))) := eL619 ▸ jg_eq
            refine jx_ld (pc' := 63) (l' := L619) (st' := [.ref 66]) rfl (jl_aloadn gL619_0) ?_
            refine jx_ar (pc' := 65) (st' := [.int (i32 (91)), .ref 66]) rfl rfl rfl rfl ?_
            refine jx_vr (pc' := 68) (as := [.int (i32 (91))]) (st := []) rfl rfl rfl rfl ⟨rfl, rfl, Nat.le_of_ble_eq_true rfl⟩ rfl rfl (c_is (dd := d) (hd := by omega) (hW := hW564) (k := 91) (tk := tk2_563) (e_tk := show G560 11 = tk2_563 from (e567)) (tn := G560 13) (e_tn := show G560 13 = G560 13 from rfl)  (h_k := by omega)  ) (fun o V' hq => ?_)
            obtain ⟨r620, rfl, rfl, b621, q622⟩ := hq
            refine .inr ⟨_, rfl, ?_⟩
            rcases q622 with ⟨rfl, a623, a624, a625⟩ | rfl
            · have _q : True := trivial
              refine jx_ld (pc' := 70) (l' := jSto1 L619 5 (.int (i32 (1)))) (st' := []) rfl rfl ?_
              obtain ⟨L626, eL626⟩ : ∃ q, q = jSto1 L619 5 (.int (i32 (1))) := ⟨_, rfl⟩
              rw [← eL626]
              have gL626_0 : jGet L626 0 = some (.ref 66) := eL626 ▸ jg_ne (by decide) gL619_0 rfl
              have gL626_1 : jGet L626 1 = some (.int (i32 (G 12))) := eL626 ▸ jg_ne (by decide) gL619_1 rfl
              have gL626_2 : jGet L626 2 = some (.int (i32 (r531))) := eL626 ▸ jg_ne (by decide) gL619_2 rfl
              have gL626_3 : jGet L626 3 = some (.int (i32 (A 7 (r531).toNat))) := eL626 ▸ jg_ne (by decide) gL619_3 rfl
              have gL626_4 : jGet L626 4 = some (.int (i32 (0))) := eL626 ▸ jg_ne (by decide) gL619_4 rfl
              have gL626_5 : jGet L626 5 = some (.int (i32 (1))) := eL626 ▸ jg_eq
              refine jx_ld (pc' := 72) (l' := L626) (st' := [.int (i32 (1))]) rfl (jl_iload gL626_5) ?_
              refine jx_if_eq (pc' := 75) (tg := 110) rfl rfl rfl (by omega) (by omega) (fun h627 => ?_) (fun h627 => ?_)
              · have _q := h627
                exact absurd h627 (by omega)
              · have _q := h627
                refine jx_ld (pc' := 76) (l' := L626) (st' := [.int (i32 (A 7 (r531).toNat))]) rfl (jl_iloadn gL626_3) ?_
                refine jx_st (pc' := 79) (as := [.int (i32 (A 7 (r531).toNat))]) (st := []) rfl rfl ⟨rfl, Nat.le_of_ble_eq_true rfl⟩ rfl rfl rfl (c_isArray (dd := d) (hd := by omega) (k := A 7 (r531).toNat)   (h_k := by omega)  ) (fun o V' hq => ?_)
                obtain ⟨r628, rfl, rfl, b629, q630⟩ := hq
                refine .inr ⟨_, rfl, ?_⟩
                rcases q630 with rfl | rfl
                · have _q : True := trivial
                  refine jx_if_ne (pc' := 82) (tg := 95) rfl rfl rfl (by omega) (by omega) (fun h631 => ?_) (fun h631 => ?_)
                  · have _q := h631
                    refine jx_ld (pc' := 96) (l' := L626) (st' := [.ref 66]) rfl (jl_aloadn gL626_0) ?_
                    refine jx_vr (pc' := 99) (as := []) (st := []) rfl rfl rfl rfl ⟨rfl, rfl, Nat.le_of_ble_eq_true rfl⟩ rfl rfl (c_readIndex (dd := d) (k := 9) (hE := RE_all X 9) (hd := by omega) (hW := hW564)  (ln := ln) (e_ln := show G560 9 = ln from ((hF565.1 9 rfl).trans ((hF534.1 9 rfl).trans (e_ln)))) (le := le) (e_le := show A561 4 (ln).toNat = le from (congrFun ((hF565.2 4 rfl).trans (hF534.2 4 rfl)) _).trans (e_le)) (at0 := at2_562) (e_at0 := show G560 10 = at2_562 from (e566)) (fk := fk2_532) (e_fk := show G560 16 = fk2_532 from ((hF565.1 16 rfl).trans (e536))) (op0 := op0) (e_op0 := show G560 15 = op0 from ((hF565.1 15 rfl).trans ((hF534.1 15 rfl).trans (e_op0)))) (nd := nd) (e_nd := show G560 31 = nd from ((hF565.1 31 rfl).trans ((hF534.1 31 rfl).trans (e_nd)))) (tk0 := tk2_563) (e_tk0 := show G560 11 = tk2_563 from (e567))    (p_0 := by omega) (p_1 := by omega) (p_2 := by omega) (p_3 := by omega) (p_4 := by omega) (p_5 := by omega) (p_6 := by omega) (p_7 := by omega) (p_8 := by omega)) (fun o V' hq => ?_)
                    obtain ⟨G632, A633, r634, at2_635, fk2_636, op2_637, nd2_638, tk2_639, rfl, rfl, hW640, hF641, b642, e643, e644, e645, e646, e647, p648, p649, p650, p651, p652, p653, q654⟩ := hq
                    have hF655 := Fr_tr hF572 hF641 (Fr_sub (by decide)) (Fr_sub (by decide))
                    have bat2_635 : (0 : Int) ≤ at2_635 ∧ at2_635 ≤ 3002 := e643 ▸ hW640.1 10
                    have bfk2_636 : (0 : Int) ≤ fk2_636 ∧ fk2_636 ≤ 6 := e644 ▸ hW640.1 16
                    have bop2_637 : (-2147483648 : Int) ≤ op2_637 ∧ op2_637 ≤ 2147483647 := e645 ▸ hW640.1 15
                    have bnd2_638 : (0 : Int) ≤ nd2_638 ∧ nd2_638 ≤ 6999 := e646 ▸ hW640.1 31
                    have ztk2_639 := tz_b tk2_639
                    have btk2_639 : (0 : Int) ≤ tk2_639 ∧ tk2_639 ≤ 5 := e647 ▸ hW640.1 11
                    refine .inr ⟨_, rfl, ?_⟩
                    rcases q654 with ⟨a656, a657, a658⟩ | ⟨a659, a660, a661⟩
                    · have _q : True := trivial
                      refine jx_ld (pc' := 101) (l' := jSto1 L626 4 (.int (i32 (r634)))) (st' := []) rfl rfl ?_
                      obtain ⟨L662, eL662⟩ : ∃ q, q = jSto1 L626 4 (.int (i32 (r634))) := ⟨_, rfl⟩
                      rw [← eL662]
                      have gL662_0 : jGet L662 0 = some (.ref 66) := eL662 ▸ jg_ne (by decide) gL626_0 rfl
                      have gL662_1 : jGet L662 1 = some (.int (i32 (G 12))) := eL662 ▸ jg_ne (by decide) gL626_1 rfl
                      have gL662_2 : jGet L662 2 = some (.int (i32 (r531))) := eL662 ▸ jg_ne (by decide) gL626_2 rfl
                      have gL662_3 : jGet L662 3 = some (.int (i32 (A 7 (r531).toNat))) := eL662 ▸ jg_ne (by decide) gL626_3 rfl
                      have gL662_5 : jGet L662 5 = some (.int (i32 (1))) := eL662 ▸ jg_ne (by decide) gL626_5 rfl
                      have gL662_4 : jGet L662 4 = some (.int (i32 (r634))) := eL662 ▸ jg_eq
                      refine jx_ld (pc' := 102) (l' := L662) (st' := [.ref 66]) rfl (jl_aloadn gL662_0) ?_
                      refine jx_vr (pc' := 105) (as := []) (st := []) rfl rfl rfl rfl ⟨rfl, rfl, Nat.le_of_ble_eq_true rfl⟩ rfl rfl (c_bad (dd := d) (hd := by omega) (hW := hW640)  (fk := fk2_636) (e_fk := show G632 16 = fk2_636 from (e644))    ) (fun o V' hq => ?_)
                      obtain ⟨r663, rfl, rfl, b664, q665⟩ := hq
                      refine .inr ⟨_, rfl, ?_⟩
                      rcases q665 with ⟨rfl, a666⟩ | ⟨rfl, a667⟩
                      · have _q : True := trivial
                        refine jx_if_eq (pc' := 108) (tg := 110) rfl rfl rfl (by omega) (by omega) (fun h668 => ?_) (fun h668 => ?_)
                        · have _q := h668
                          exact absurd h668 (by omega)
                        · have _q := h668
                          refine jx_ar (pc' := 109) (st' := [.int (i32 (0))]) rfl rfl rfl rfl ?_
                          refine jx_rt (v := some (.int (i32 (0)))) rfl rfl rfl rfl rfl rfl ?_
                          exact ⟨_, _, _, at2_635, fk2_636, nd2_638, ln, rfl, rfl, hW640, hF655, by omega, (e643), (e644), (e646), ((hF641.1 9 rfl).trans ((hF565.1 9 rfl).trans ((hF534.1 9 rfl).trans (e_ln)))), by omega, by omega, by omega, by omega, by omega, by first | exact Or.inl (⟨by omega, by omega, by omega⟩) | exact Or.inr ((⟨by omega, by omega, by omega⟩))⟩
                      · have _q : True := trivial
                        exfalso
                        omega
                    · have _q : True := trivial
                      refine jx_ld (pc' := 101) (l' := jSto1 L626 4 (.int (i32 (r634)))) (st' := []) rfl rfl ?_
                      obtain ⟨L669, eL669⟩ : ∃ q, q = jSto1 L626 4 (.int (i32 (r634))) := ⟨_, rfl⟩
                      rw [← eL669]
                      have gL669_0 : jGet L669 0 = some (.ref 66) := eL669 ▸ jg_ne (by decide) gL626_0 rfl
                      have gL669_1 : jGet L669 1 = some (.int (i32 (G 12))) := eL669 ▸ jg_ne (by decide) gL626_1 rfl
                      have gL669_2 : jGet L669 2 = some (.int (i32 (r531))) := eL669 ▸ jg_ne (by decide) gL626_2 rfl
                      have gL669_3 : jGet L669 3 = some (.int (i32 (A 7 (r531).toNat))) := eL669 ▸ jg_ne (by decide) gL626_3 rfl
                      have gL669_5 : jGet L669 5 = some (.int (i32 (1))) := eL669 ▸ jg_ne (by decide) gL626_5 rfl
                      have gL669_4 : jGet L669 4 = some (.int (i32 (r634))) := eL669 ▸ jg_eq
                      refine jx_ld (pc' := 102) (l' := L669) (st' := [.ref 66]) rfl (jl_aloadn gL669_0) ?_
                      refine jx_vr (pc' := 105) (as := []) (st := []) rfl rfl rfl rfl ⟨rfl, rfl, Nat.le_of_ble_eq_true rfl⟩ rfl rfl (c_bad (dd := d) (hd := by omega) (hW := hW640)  (fk := fk2_636) (e_fk := show G632 16 = fk2_636 from (e644))    ) (fun o V' hq => ?_)
                      obtain ⟨r670, rfl, rfl, b671, q672⟩ := hq
                      refine .inr ⟨_, rfl, ?_⟩
                      rcases q672 with ⟨rfl, a673⟩ | ⟨rfl, a674⟩
                      · have _q : True := trivial
                        exfalso
                        omega
                      · have _q : True := trivial
                        refine jx_if_eq (pc' := 108) (tg := 110) rfl rfl rfl (by omega) (by omega) (fun h675 => ?_) (fun h675 => ?_)
                        · have _q := h675
                          have z676 := tz_f (tk2_639)
                          exact at_110 L669 G632 A633 (G 12) (r531) (A 7 (r531).toNat) (r634) (1) (at2_635) (tk2_639) (fk2_636) (nd2_638) (op2_637) gL669_0 gL669_1 gL669_2 gL669_3 gL669_4 gL669_5 hW640 hF655 ((e643)) ((e647)) ((e644)) ((e646)) ((e645)) (((hF641.1 9 rfl).trans ((hF565.1 9 rfl).trans ((hF534.1 9 rfl).trans (e_ln))))) (by omega) (by omega) (by omega) (by omega) (by omega) (by omega) (by omega) (by omega) (by omega) (by omega) (by omega) (by omega) (by omega) (by omega)
                        · have _q := h675
                          exact absurd h675 (by omega)
                  · have _q := h631
                    exact absurd h631 (by omega)
                · have _q : True := trivial
                  refine jx_if_ne (pc' := 82) (tg := 95) rfl rfl rfl (by omega) (by omega) (fun h677 => ?_) (fun h677 => ?_)
                  · have _q := h677
                    exact absurd h677 (by omega)
                  · have _q := h677
                    refine jx_ld (pc' := 83) (l' := L626) (st' := [.int (i32 (A 7 (r531).toNat))]) rfl (jl_iloadn gL626_3) ?_
                    refine jx_ar (pc' := 84) (st' := [.int (i32 (4)), .int (i32 (A 7 (r531).toNat))]) rfl rfl rfl rfl ?_
                    refine jx_icmp_eq (pc' := 87) (tg := 95) rfl rfl rfl (by omega) (by omega) (by omega) (by omega) (fun h678 => ?_) (fun h678 => ?_)
                    · have _q := h678
                      refine jx_ld (pc' := 96) (l' := L626) (st' := [.ref 66]) rfl (jl_aloadn gL626_0) ?_
                      refine jx_vr (pc' := 99) (as := []) (st := []) rfl rfl rfl rfl ⟨rfl, rfl, Nat.le_of_ble_eq_true rfl⟩ rfl rfl (c_readIndex (dd := d) (k := 9) (hE := RE_all X 9) (hd := by omega) (hW := hW564)  (ln := ln) (e_ln := show G560 9 = ln from ((hF565.1 9 rfl).trans ((hF534.1 9 rfl).trans (e_ln)))) (le := le) (e_le := show A561 4 (ln).toNat = le from (congrFun ((hF565.2 4 rfl).trans (hF534.2 4 rfl)) _).trans (e_le)) (at0 := at2_562) (e_at0 := show G560 10 = at2_562 from (e566)) (fk := fk2_532) (e_fk := show G560 16 = fk2_532 from ((hF565.1 16 rfl).trans (e536))) (op0 := op0) (e_op0 := show G560 15 = op0 from ((hF565.1 15 rfl).trans ((hF534.1 15 rfl).trans (e_op0)))) (nd := nd) (e_nd := show G560 31 = nd from ((hF565.1 31 rfl).trans ((hF534.1 31 rfl).trans (e_nd)))) (tk0 := tk2_563) (e_tk0 := show G560 11 = tk2_563 from (e567))    (p_0 := by omega) (p_1 := by omega) (p_2 := by omega) (p_3 := by omega) (p_4 := by omega) (p_5 := by omega) (p_6 := by omega) (p_7 := by omega) (p_8 := by omega)) (fun o V' hq => ?_)
                      obtain ⟨G679, A680, r681, at2_682, fk2_683, op2_684, nd2_685, tk2_686, rfl, rfl, hW687, hF688, b689, e690, e691, e692, e693, e694, p695, p696, p697, p698, p699, p700, q701⟩ := hq
                      have hF702 := Fr_tr hF572 hF688 (Fr_sub (by decide)) (Fr_sub (by decide))
                      have bat2_682 : (0 : Int) ≤ at2_682 ∧ at2_682 ≤ 3002 := e690 ▸ hW687.1 10
                      have bfk2_683 : (0 : Int) ≤ fk2_683 ∧ fk2_683 ≤ 6 := e691 ▸ hW687.1 16
                      have bop2_684 : (-2147483648 : Int) ≤ op2_684 ∧ op2_684 ≤ 2147483647 := e692 ▸ hW687.1 15
                      have bnd2_685 : (0 : Int) ≤ nd2_685 ∧ nd2_685 ≤ 6999 := e693 ▸ hW687.1 31
                      have ztk2_686 := tz_b tk2_686
                      have btk2_686 : (0 : Int) ≤ tk2_686 ∧ tk2_686 ≤ 5 := e694 ▸ hW687.1 11
                      refine .inr ⟨_, rfl, ?_⟩
                      rcases q701 with ⟨a703, a704, a705⟩ | ⟨a706, a707, a708⟩
                      · have _q : True := trivial
                        refine jx_ld (pc' := 101) (l' := jSto1 L626 4 (.int (i32 (r681)))) (st' := []) rfl rfl ?_
                        obtain ⟨L709, eL709⟩ : ∃ q, q = jSto1 L626 4 (.int (i32 (r681))) := ⟨_, rfl⟩
                        rw [← eL709]
                        have gL709_0 : jGet L709 0 = some (.ref 66) := eL709 ▸ jg_ne (by decide) gL626_0 rfl
                        have gL709_1 : jGet L709 1 = some (.int (i32 (G 12))) := eL709 ▸ jg_ne (by decide) gL626_1 rfl
                        have gL709_2 : jGet L709 2 = some (.int (i32 (r531))) := eL709 ▸ jg_ne (by decide) gL626_2 rfl
                        have gL709_3 : jGet L709 3 = some (.int (i32 (A 7 (r531).toNat))) := eL709 ▸ jg_ne (by decide) gL626_3 rfl
                        have gL709_5 : jGet L709 5 = some (.int (i32 (1))) := eL709 ▸ jg_ne (by decide) gL626_5 rfl
                        have gL709_4 : jGet L709 4 = some (.int (i32 (r681))) := eL709 ▸ jg_eq
                        refine jx_ld (pc' := 102) (l' := L709) (st' := [.ref 66]) rfl (jl_aloadn gL709_0) ?_
                        refine jx_vr (pc' := 105) (as := []) (st := []) rfl rfl rfl rfl ⟨rfl, rfl, Nat.le_of_ble_eq_true rfl⟩ rfl rfl (c_bad (dd := d) (hd := by omega) (hW := hW687)  (fk := fk2_683) (e_fk := show G679 16 = fk2_683 from (e691))    ) (fun o V' hq => ?_)
                        obtain ⟨r710, rfl, rfl, b711, q712⟩ := hq
                        refine .inr ⟨_, rfl, ?_⟩
                        rcases q712 with ⟨rfl, a713⟩ | ⟨rfl, a714⟩
                        · have _q : True := trivial
                          refine jx_if_eq (pc' := 108) (tg := 110) rfl rfl rfl (by omega) (by omega) (fun h715 => ?_) (fun h715 => ?_)
                          · have _q := h715
                            exact absurd h715 (by omega)
                          · have _q := h715
                            refine jx_ar (pc' := 109) (st' := [.int (i32 (0))]) rfl rfl rfl rfl ?_
                            refine jx_rt (v := some (.int (i32 (0)))) rfl rfl rfl rfl rfl rfl ?_
                            exact ⟨_, _, _, at2_682, fk2_683, nd2_685, ln, rfl, rfl, hW687, hF702, by omega, (e690), (e691), (e693), ((hF688.1 9 rfl).trans ((hF565.1 9 rfl).trans ((hF534.1 9 rfl).trans (e_ln)))), by omega, by omega, by omega, by omega, by omega, by first | exact Or.inl (⟨by omega, by omega, by omega⟩) | exact Or.inr ((⟨by omega, by omega, by omega⟩))⟩
                        · have _q : True := trivial
                          exfalso
                          omega
                      · have _q : True := trivial
                        refine jx_ld (pc' := 101) (l' := jSto1 L626 4 (.int (i32 (r681)))) (st' := []) rfl rfl ?_
                        obtain ⟨L716, eL716⟩ : ∃ q, q = jSto1 L626 4 (.int (i32 (r681))) := ⟨_, rfl⟩
                        rw [← eL716]
                        have gL716_0 : jGet L716 0 = some (.ref 66) := eL716 ▸ jg_ne (by decide) gL626_0 rfl
                        have gL716_1 : jGet L716 1 = some (.int (i32 (G 12))) := eL716 ▸ jg_ne (by decide) gL626_1 rfl
                        have gL716_2 : jGet L716 2 = some (.int (i32 (r531))) := eL716 ▸ jg_ne (by decide) gL626_2 rfl
                        have gL716_3 : jGet L716 3 = some (.int (i32 (A 7 (r531).toNat))) := eL716 ▸ jg_ne (by decide) gL626_3 rfl
                        have gL716_5 : jGet L716 5 = some (.int (i32 (1))) := eL716 ▸ jg_ne (by decide) gL626_5 rfl
                        have gL716_4 : jGet L716 4 = some (.int (i32 (r681))) := eL716 ▸ jg_eq
                        refine jx_ld (pc' := 102) (l' := L716) (st' := [.ref 66]) rfl (jl_aloadn gL716_0) ?_
                        refine jx_vr (pc' := 105) (as := []) (st := []) rfl rfl rfl rfl ⟨rfl, rfl, Nat.le_of_ble_eq_true rfl⟩ rfl rfl (c_bad (dd := d) (hd := by omega) (hW := hW687)  (fk := fk2_683) (e_fk := show G679 16 = fk2_683 from (e691))    ) (fun o V' hq => ?_)
                        obtain ⟨r717, rfl, rfl, b718, q719⟩ := hq
                        refine .inr ⟨_, rfl, ?_⟩
                        rcases q719 with ⟨rfl, a720⟩ | ⟨rfl, a721⟩
                        · have _q : True := trivial
                          exfalso
                          omega
                        · have _q : True := trivial
                          refine jx_if_eq (pc' := 108) (tg := 110) rfl rfl rfl (by omega) (by omega) (fun h722 => ?_) (fun h722 => ?_)
                          · have _q := h722
                            have z723 := tz_f (tk2_686)
                            exact at_110 L716 G679 A680 (G 12) (r531) (A 7 (r531).toNat) (r681) (1) (at2_682) (tk2_686) (fk2_683) (nd2_685) (op2_684) gL716_0 gL716_1 gL716_2 gL716_3 gL716_4 gL716_5 hW687 hF702 ((e690)) ((e694)) ((e691)) ((e693)) ((e692)) (((hF688.1 9 rfl).trans ((hF565.1 9 rfl).trans ((hF534.1 9 rfl).trans (e_ln))))) (by omega) (by omega) (by omega) (by omega) (by omega) (by omega) (by omega) (by omega) (by omega) (by omega) (by omega) (by omega) (by omega) (by omega)
                          · have _q := h722
                            exact absurd h722 (by omega)
                    · have _q := h678
                      refine jx_ld (pc' := 88) (l' := L626) (st' := [.ref 66]) rfl (jl_aloadn gL626_0) ?_
                      refine jx_ar (pc' := 89) (st' := [.int (i32 (4)), .ref 66]) rfl rfl rfl rfl ?_
                      refine jx_ld (pc' := 90) (l' := L626) (st' := [.int (i32 (G 12)), .int (i32 (4)), .ref 66]) rfl (jl_iloadn gL626_1) ?_
                      refine jx_vr (pc' := 93) (as := [.int (i32 (4)), .int (i32 (G 12))]) (st := []) rfl rfl rfl rfl ⟨rfl, rfl, Nat.le_of_ble_eq_true rfl⟩ rfl rfl (c_fail (dd := d) (hd := by omega) (hW := hW564) (kind := 4) (place := G 12) (fk := fk2_532) (e_fk := show G560 16 = fk2_532 from ((hF565.1 16 rfl).trans (e536)))  (h_kind := by omega) (h_place := by omega)  (p_0 := by omega) (p_1 := by omega)) (fun o V' hq => ?_)
                      obtain ⟨G724, A725, fk2_726, rfl, rfl, hW727, hF728, e729, p730, -⟩ := hq
                      have hF732 := Fr_tr hF572 hF728 (Fr_sub (by decide)) (Fr_sub (by decide))
                      have bfk2_726 : (0 : Int) ≤ fk2_726 ∧ fk2_726 ≤ 6 := e729 ▸ hW727.1 16
                      refine .inl ⟨rfl, ?_⟩
                      refine jx_ar (pc' := 94) (st' := [.int (i32 (0))]) rfl rfl rfl rfl ?_
                      refine jx_rt (v := some (.int (i32 (0)))) rfl rfl rfl rfl rfl rfl ?_
                      exact ⟨_, _, _, at2_562, fk2_726, nd, ln, rfl, rfl, hW727, hF732, by omega, ((hF728.1 10 rfl).trans (e566)), (e729), ((hF728.1 31 rfl).trans ((hF565.1 31 rfl).trans ((hF534.1 31 rfl).trans (e_nd)))), ((hF728.1 9 rfl).trans ((hF565.1 9 rfl).trans ((hF534.1 9 rfl).trans (e_ln)))), by omega, by omega, by omega, by omega, by omega, by first | exact Or.inl (⟨by omega, by omega, by omega⟩) | exact Or.inr ((⟨by omega, by omega, by omega⟩))⟩
            · have _q : True := trivial
              refine jx_ld (pc' := 70) (l' := jSto1 L619 5 (.int (i32 (0)))) (st' := []) rfl rfl ?_
              obtain ⟨L733, eL733⟩ : ∃ q, q = jSto1 L619 5 (.int (i32 (0))) := ⟨_, rfl⟩
              rw [← eL733]
              have gL733_0 : jGet L733 0 = some (.ref 66) := eL733 ▸ jg_ne (by decide) gL619_0 rfl
              have gL733_1 : jGet L733 1 = some (.int (i32 (G 12))) := eL733 ▸ jg_ne (by decide) gL619_1 rfl
              have gL733_2 : jGet L733 2 = some (.int (i32 (r531))) := eL733 ▸ jg_ne (by decide) gL619_2 rfl
              have gL733_3 : jGet L733 3 = some (.int (i32 (A 7 (r531).toNat))) := eL733 ▸ jg_ne (by decide) gL619_3 rfl
              have gL733_4 : jGet L733 4 = some (.int (i32 (0))) := eL733 ▸ jg_ne (by decide) gL619_4 rfl
              have gL733_5 : jGet L733 5 = some (.int (i32 (0))) := eL733 ▸ jg_eq
              refine jx_ld (pc' := 72) (l' := L733) (st' := [.int (i32 (0))]) rfl (jl_iload gL733_5) ?_
              refine jx_if_eq (pc' := 75) (tg := 110) rfl rfl rfl (by omega) (by omega) (fun h734 => ?_) (fun h734 => ?_)
              · have _q := h734
                have z735 := tz_f (tk2_563)
                exact at_110 L733 G560 A561 (G 12) (r531) (A 7 (r531).toNat) (0) (0) (at2_562) (tk2_563) (fk2_532) (nd) (op0) gL733_0 gL733_1 gL733_2 gL733_3 gL733_4 gL733_5 hW564 hF572 ((e566)) ((e567)) (((hF565.1 16 rfl).trans (e536))) (((hF565.1 31 rfl).trans ((hF534.1 31 rfl).trans (e_nd)))) (((hF565.1 15 rfl).trans ((hF534.1 15 rfl).trans (e_op0)))) (((hF565.1 9 rfl).trans ((hF534.1 9 rfl).trans (e_ln)))) (by omega) (by omega) (by omega) (by omega) (by omega) (by omega) (by omega) (by omega) (by omega) (by omega) (by omega) (by omega) (by omega) (by omega)
              · have _q := h734
                exact absurd h734 (by omega)
          · have _q := h618
            exact absurd h618 (by omega)
      · have _q := h557
        exact absurd h557 (by omega)
set_option maxRecDepth 20000 in
set_option maxHeartbeats 4000000 in
theorem c_readGuard {X : jX} {dd : Nat} {c0 c1 : jC} {G : Nat → Int} {A : Nat → Nat → Int} {T : jH} {ln le at0 fk op0 nd tk0 li : Int} (hd : 71 ≤ dd) (hW : Wk G A) (e_ln : G 9 = ln) (e_le : A 4 (ln).toNat = le) (e_at0 : G 10 = at0) (e_fk : G 16 = fk) (e_op0 : G 15 = op0) (e_nd : G 31 = nd) (e_tk0 : G 11 = tk0) (e_li : G 3 = li) (p_0 : 0 ≤ op0 ∧ op0 ≤ 8) (p_1 : fk = 0) (p_2 : nd ≤ 2 * at0 - tz tk0 + 42) (p_3 : at0 ≤ le) (p_4 : ln < li) : wk X dd 303 [.ref 66] (rV c0 c1 G A T) (fun o V' => ∃ (G' : Nat → Int) (A' : Nat → Nat → Int) (r : Int) (at2 : Int) (fk2 : Int) (nd2 : Int) (ln2 : Int), V' = rV c0 c1 G' A' T ∧ o = .inl (some (.int (i32 r))) ∧ Wk G' A' ∧ Fr [9, 10, 11, 12, 13, 14, 15, 16, 17, 18, 31] [15, 16, 17, 18, 19, 20, 21, 22, 24, 28] G A G' A' ∧ ((-2147483648 : Int) ≤ r ∧ r ≤ 2147483647) ∧ G' 10 = at2 ∧ G' 16 = fk2 ∧ G' 31 = nd2 ∧ G' 9 = ln2 ∧ (at0 ≤ at2) ∧ (at2 ≤ le) ∧ (nd ≤ nd2) ∧ (0 ≤ r) ∧ (r ≤ nd2) ∧ (((1 ≤ fk2) ∧ (ln2 = ln) ∧ (nd2 - nd ≤ 2 * at2 - 2 * at0 + 12)) ∨ ((fk2 = 0) ∧ (ln2 = ln + 1) ∧ (nd2 - nd ≤ 2 * at2 - (2 * at0 - tz tk0) + 0)))) := by
  obtain ⟨d, rfl⟩ : ∃ d, dd = d + 1 := ⟨dd - 1, by omega⟩
  refine wk_of (e := jm303) rfl (Nat.le_of_ble_eq_true rfl) ?_
  show wj X d jm303 (0, [(0, .ref 66)], [], rV c0 c1 G A T) _
  have hF0 : Fr [9, 10, 11, 12, 13, 14, 15, 16, 17, 18, 31] [15, 16, 17, 18, 19, 20, 21, 22, 24, 28] G A G A := Fr_rf
  have b_ln : (0 : Int) ≤ ln ∧ ln ≤ 3000 := e_ln ▸ hW.1 9
  have b_le : (0 : Int) ≤ le ∧ le ≤ 3000 := e_le ▸ hW.2 4 _
  have b_at0 : (0 : Int) ≤ at0 ∧ at0 ≤ 3002 := e_at0 ▸ hW.1 10
  have b_fk : (0 : Int) ≤ fk ∧ fk ≤ 6 := e_fk ▸ hW.1 16
  have b_op0 : (-2147483648 : Int) ≤ op0 ∧ op0 ≤ 2147483647 := e_op0 ▸ hW.1 15
  have b_nd : (0 : Int) ≤ nd ∧ nd ≤ 6999 := e_nd ▸ hW.1 31
  have z_tk0 := tz_f tk0
  have b_tk0 : (0 : Int) ≤ tk0 ∧ tk0 ≤ 5 := e_tk0 ▸ hW.1 11
  have b_li : (0 : Int) ≤ li ∧ li ≤ 3000 := e_li ▸ hW.1 3
  have at_293 : ∀ (L : jL) (Gx : Nat → Int) (Ax : Nat → Nat → Int) (one e at1 tk1 fk1 nd1 op1 : Int), jGet L 0 = some (.ref 66) → jGet L 1 = some (.int (i32 one)) → jGet L 2 = some (.int (i32 e)) → Wk Gx Ax → Fr [9, 10, 11, 12, 13, 14, 15, 16, 17, 18, 31] [15, 16, 17, 18, 19, 20, 21, 22, 24, 28] G A Gx Ax → Gx 10 = at1 → Gx 11 = tk1 → Gx 16 = fk1 → Gx 31 = nd1 → Gx 15 = op1 → Gx 9 = ln → ((-2147483648 : Int) ≤ one ∧ one ≤ 2147483647) → ((-2147483648 : Int) ≤ e ∧ e ≤ 2147483647) → (at0 ≤ at1) → (at1 ≤ le) → (nd ≤ nd1) → (op1 = op0) → (0 ≤ one ∧ one ≤ 6998 ∧ one ≤ nd1) → (1 ≤ fk1 ∨ nd1 - nd ≤ (2 * at1 - tz tk1) - (2 * at0 - tz tk0) + 1) → (nd1 - nd ≤ (2 * at1 - tz tk1) - (2 * at0 - tz tk0) + 5) → wj X d jm303 (293, L, [], rV c0 c1 Gx Ax T) (fun o V' => ∃ (G' : Nat → Int) (A' : Nat → Nat → Int) (r : Int) (at2 : Int) (fk2 : Int) (nd2 : Int) (ln2 : Int), V' = rV c0 c1 G' A' T ∧ o = .inl (some (.int (i32 r))) ∧ Wk G' A' ∧ Fr [9, 10, 11, 12, 13, 14, 15, 16, 17, 18, 31] [15, 16, 17, 18, 19, 20, 21, 22, 24, 28] G A G' A' ∧ ((-2147483648 : Int) ≤ r ∧ r ≤ 2147483647) ∧ G' 10 = at2 ∧ G' 16 = fk2 ∧ G' 31 = nd2 ∧ G' 9 = ln2 ∧ (at0 ≤ at2) ∧ (at2 ≤ le) ∧ (nd ≤ nd2) ∧ (0 ≤ r) ∧ (r ≤ nd2) ∧ (((1 ≤ fk2) ∧ (ln2 = ln) ∧ (nd2 - nd ≤ 2 * at2 - 2 * at0 + 12)) ∨ ((fk2 = 0) ∧ (ln2 = ln + 1) ∧ (nd2 - nd ≤ 2 * at2 - (2 * at0 - tz tk0) + 0)))) := by
    intro L Gx Ax one e at1 tk1 fk1 nd1 op1 gL_0 gL_1 gL_2 hWx hFx ex_at1 ex_tk1 ex_fk1 ex_nd1 ex_op1 fx_9 rx_one rx_e iv_0 iv_1 iv_2 iv_3 iv_4 iv_5 iv_6
    have b_at1 : (0 : Int) ≤ at1 ∧ at1 ≤ 3002 := ex_at1 ▸ hWx.1 10
    have z_tk1 := tz_f tk1
    have b_tk1 : (0 : Int) ≤ tk1 ∧ tk1 ≤ 5 := ex_tk1 ▸ hWx.1 11
    have b_fk1 : (0 : Int) ≤ fk1 ∧ fk1 ≤ 6 := ex_fk1 ▸ hWx.1 16
    have b_nd1 : (0 : Int) ≤ nd1 ∧ nd1 ≤ 6999 := ex_nd1 ▸ hWx.1 31
    have b_op1 : (-2147483648 : Int) ≤ op1 ∧ op1 ≤ 2147483647 := ex_op1 ▸ hWx.1 15
    refine jx_ld (pc' := 294) (l' := L) (st' := [.ref 66]) rfl (jl_aloadn gL_0) ?_
    refine jr_get (pc' := 297) (i := 34) (v := .ref 84) rfl rfl (by decide) rfl rfl ?_
    refine jx_ld (pc' := 298) (l' := L) (st' := [.int (i32 (one)), .ref 84]) rfl (jl_iloadn gL_1) ?_
    refine jx_ld (pc' := 299) (l' := L) (st' := [.int (i32 (e)), .int (i32 (one)), .ref 84]) rfl (jl_iloadn gL_2) ?_
    refine jr_st (pc' := 300) (i := 17) (m := 7000) (z := one) (y := e) rfl (by decide) rfl (by decide) (by omega) (by omega) rfl ?_
    have hW2 : Wk Gx (uA Ax 17 (one).toNat (e)) := Wk_a hWx (show (-2147483648 : Int) ≤ e by omega) (show e ≤ (2147483647 : Int) by omega)
    have hF3 := Fr_a (z := e) (k := 17) (n := (one).toNat) hFx (by decide)
    obtain ⟨A1, eA1⟩ : ∃ q, q = uA Ax 17 (one).toNat (e) := ⟨_, rfl⟩
    rw [← eA1]
    rw [← eA1] at hW2 hF3
    have q4 : A1 17 (one).toNat = e := by rw [eA1]; exact uA_eq
    refine jx_ld (pc' := 301) (l' := L) (st' := [.ref 66]) rfl (jl_aloadn gL_0) ?_
    refine jx_ld (pc' := 302) (l' := L) (st' := [.ref 66, .ref 66]) rfl (jl_aloadn gL_0) ?_
    refine jx_ar (pc' := 304) (st' := [.int (i32 (38)), .ref 66, .ref 66]) rfl rfl rfl rfl ?_
    have b5 : (-2147483648 : Int) ≤ Gx 13 ∧ Gx 13 ≤ 2147483647 := hWx.1 13
    refine jx_vr (pc' := 307) (as := [.int (i32 (38))]) (st := [.ref 66]) rfl rfl rfl rfl ⟨rfl, rfl, Nat.le_of_ble_eq_true rfl⟩ rfl rfl (c_is (dd := d) (hd := by omega) (hW := hW2) (k := 38) (tk := tk1) (e_tk := show Gx 11 = tk1 from (ex_tk1)) (tn := Gx 13) (e_tn := show Gx 13 = Gx 13 from rfl)  (h_k := by omega)  ) (fun o V' hq => ?_)
    obtain ⟨r6, rfl, rfl, b7, q8⟩ := hq
    refine .inr ⟨_, rfl, ?_⟩
    rcases q8 with ⟨rfl, a9, a10, a11⟩ | rfl
    · have _q : True := trivial
      refine jx_vr (pc' := 310) (as := [.int (i32 (1))]) (st := []) rfl rfl rfl rfl ⟨rfl, rfl, Nat.le_of_ble_eq_true rfl⟩ rfl rfl (c_need (dd := d) (hd := by omega) (hW := hW2) (g := 1) (ln := ln) (e_ln := show Gx 9 = ln from (fx_9)) (le := le) (e_le := show A1 4 (ln).toNat = le from (congrFun (((congrFun eA1 4).trans (uA_ne (by decide))).trans (hFx.2 4 rfl)) _).trans (e_le)) (at0 := at1) (e_at0 := show Gx 10 = at1 from (ex_at1)) (fk := fk1) (e_fk := show Gx 16 = fk1 from (ex_fk1)) (tk0 := tk1) (e_tk0 := show Gx 11 = tk1 from (ex_tk1))  (h_g := by omega)  (p_0 := by omega)) (fun o V' hq => ?_)
      obtain ⟨G12, A13, at2_14, tk2_15, fk2_16, rfl, rfl, hW17, hF18, e19, e20, e21, p22, p23, q24⟩ := hq
      have hF25 := Fr_tr hF3 hF18 (Fr_sub (by decide)) (Fr_sub (by decide))
      have bat2_14 : (0 : Int) ≤ at2_14 ∧ at2_14 ≤ 3002 := e19 ▸ hW17.1 10
      have ztk2_15 := tz_b tk2_15
      have btk2_15 : (0 : Int) ≤ tk2_15 ∧ tk2_15 ≤ 5 := e20 ▸ hW17.1 11
      have bfk2_16 : (0 : Int) ≤ fk2_16 ∧ fk2_16 ≤ 6 := e21 ▸ hW17.1 16
      refine .inl ⟨rfl, ?_⟩
      rcases q24 with ⟨a26, a27, a28, a29⟩ | ⟨a30, a31, a32, a33⟩
      · have _q : True := trivial
        refine jx_ld (pc' := 311) (l' := L) (st' := [.ref 66]) rfl (jl_aloadn gL_0) ?_
        refine jx_ar (pc' := 313) (st' := [.int (i32 (7)), .ref 66]) rfl rfl rfl rfl ?_
        have b34 : (-2147483648 : Int) ≤ G12 13 ∧ G12 13 ≤ 2147483647 := hW17.1 13
        refine jx_vr (pc' := 316) (as := [.int (i32 (7))]) (st := []) rfl rfl rfl rfl ⟨rfl, rfl, Nat.le_of_ble_eq_true rfl⟩ rfl rfl (c_isKey (dd := d) (hd := by omega) (hW := hW17) (k := 7) (tk := tk2_15) (e_tk := show G12 11 = tk2_15 from (e20)) (tn := G12 13) (e_tn := show G12 13 = G12 13 from rfl)  (h_k := by omega)  ) (fun o V' hq => ?_)
        obtain ⟨r35, rfl, rfl, b36, q37⟩ := hq
        refine .inr ⟨_, rfl, ?_⟩
        rcases q37 with ⟨rfl, a38, a39, a40⟩ | rfl
        · have _q : True := trivial
          refine jx_if_eq (pc' := 319) (tg := 327) rfl rfl rfl (by omega) (by omega) (fun h41 => ?_) (fun h41 => ?_)
          · have _q := h41
            exact absurd h41 (by omega)
          · have _q := h41
            refine jx_ld (pc' := 320) (l' := L) (st' := [.ref 66]) rfl (jl_aloadn gL_0) ?_
            refine jx_ar (pc' := 321) (st' := [.int (i32 (1)), .ref 66]) rfl rfl rfl rfl ?_
            refine jx_vr (pc' := 324) (as := [.int (i32 (1))]) (st := []) rfl rfl rfl rfl ⟨rfl, rfl, Nat.le_of_ble_eq_true rfl⟩ rfl rfl (c_need (dd := d) (hd := by omega) (hW := hW17) (g := 1) (ln := ln) (e_ln := show G12 9 = ln from ((hF18.1 9 rfl).trans (fx_9))) (le := le) (e_le := show A13 4 (ln).toNat = le from (congrFun ((hF18.2 4 rfl).trans (((congrFun eA1 4).trans (uA_ne (by decide))).trans (hFx.2 4 rfl))) _).trans (e_le)) (at0 := at2_14) (e_at0 := show G12 10 = at2_14 from (e19)) (fk := fk2_16) (e_fk := show G12 16 = fk2_16 from (e21)) (tk0 := tk2_15) (e_tk0 := show G12 11 = tk2_15 from (e20))  (h_g := by omega)  (p_0 := by omega)) (fun o V' hq => ?_)
            obtain ⟨G42, A43, at2_44, tk2_45, fk2_46, rfl, rfl, hW47, hF48, e49, e50, e51, p52, p53, q54⟩ := hq
            have hF55 := Fr_tr hF25 hF48 (Fr_sub (by decide)) (Fr_sub (by decide))
            have bat2_44 : (0 : Int) ≤ at2_44 ∧ at2_44 ≤ 3002 := e49 ▸ hW47.1 10
            have ztk2_45 := tz_b tk2_45
            have btk2_45 : (0 : Int) ≤ tk2_45 ∧ tk2_45 ≤ 5 := e50 ▸ hW47.1 11
            have bfk2_46 : (0 : Int) ≤ fk2_46 ∧ fk2_46 ≤ 6 := e51 ▸ hW47.1 16
            refine .inl ⟨rfl, ?_⟩
            rcases q54 with ⟨a56, a57, a58, a59⟩ | ⟨a60, a61, a62, a63⟩
            · have _q : True := trivial
              refine jx_go (tg := 359) rfl rfl ?_
              refine jx_ld (pc' := 360) (l' := L) (st' := [.ref 66]) rfl (jl_aloadn gL_0) ?_
              refine jx_vr (pc' := 363) (as := []) (st := []) rfl rfl rfl rfl ⟨rfl, rfl, Nat.le_of_ble_eq_true rfl⟩ rfl rfl (c_endLine (dd := d) (hd := by omega) (hW := hW47)  (ln := ln) (e_ln := show G42 9 = ln from ((hF48.1 9 rfl).trans ((hF18.1 9 rfl).trans (fx_9)))) (li := li) (e_li := show G42 3 = li from ((hF48.1 3 rfl).trans ((hF18.1 3 rfl).trans ((hFx.1 3 rfl).trans (e_li))))) (fk := fk2_46) (e_fk := show G42 16 = fk2_46 from (e51)) (tk0 := tk2_45) (e_tk0 := show G42 11 = tk2_45 from (e50))    (p_0 := by omega)) (fun o V' hq => ?_)
              obtain ⟨G64, A65, ln2_66, fk2_67, rfl, rfl, hW68, hF69, e70, e71, q72⟩ := hq
              have hF73 := Fr_tr hF55 hF69 (Fr_sub (by decide)) (Fr_sub (by decide))
              have bln2_66 : (0 : Int) ≤ ln2_66 ∧ ln2_66 ≤ 3000 := e70 ▸ hW68.1 9
              have bfk2_67 : (0 : Int) ≤ fk2_67 ∧ fk2_67 ≤ 6 := e71 ▸ hW68.1 16
              refine .inl ⟨rfl, ?_⟩
              rcases q72 with ⟨a74, a75, a76, a77, a78⟩ | ⟨a79, a80⟩
              · have _q : True := trivial
                exfalso
                omega
              · have _q : True := trivial
                refine jx_ld (pc' := 364) (l' := L) (st' := [.int (i32 (one))]) rfl (jl_iloadn gL_1) ?_
                refine jx_rt (v := some (.int (i32 (one)))) rfl rfl rfl rfl rfl rfl ?_
                exact ⟨_, _, _, at2_44, fk2_67, nd1, ln2_66, rfl, rfl, hW68, hF73, by omega, ((hF69.1 10 rfl).trans (e49)), (e71), ((hF69.1 31 rfl).trans ((hF48.1 31 rfl).trans ((hF18.1 31 rfl).trans (ex_nd1)))), (e70), by omega, by omega, by omega, by omega, by omega, by first | exact Or.inl (⟨by omega, by omega, by omega⟩) | exact Or.inr ((⟨by omega, by omega, by omega⟩))⟩
            · have _q : True := trivial
              exfalso
              omega
        · have _q : True := trivial
          refine jx_if_eq (pc' := 319) (tg := 327) rfl rfl rfl (by omega) (by omega) (fun h81 => ?_) (fun h81 => ?_)
          · have _q := h81
            refine jx_ld (pc' := 328) (l' := L) (st' := [.ref 66]) rfl (jl_aloadn gL_0) ?_
            refine jr_get (pc' := 331) (i := 35) (v := .ref 85) rfl rfl (by decide) rfl rfl ?_
            refine jx_ld (pc' := 332) (l' := L) (st' := [.int (i32 (one)), .ref 85]) rfl (jl_iloadn gL_1) ?_
            refine jx_ld (pc' := 333) (l' := L) (st' := [.ref 66, .int (i32 (one)), .ref 85]) rfl (jl_aloadn gL_0) ?_
            refine jx_ar (pc' := 334) (st' := [.int (i32 (1)), .ref 66, .int (i32 (one)), .ref 85]) rfl rfl rfl rfl ?_
            refine jx_vr (pc' := 337) (as := [.int (i32 (1))]) (st := [.int (i32 (one)), .ref 85]) rfl rfl rfl rfl ⟨rfl, rfl, Nat.le_of_ble_eq_true rfl⟩ rfl rfl (c_readReference (dd := d) (hd := by omega) (hW := hW17) (ch := 1) (ln := ln) (e_ln := show G12 9 = ln from ((hF18.1 9 rfl).trans (fx_9))) (le := le) (e_le := show A13 4 (ln).toNat = le from (congrFun ((hF18.2 4 rfl).trans (((congrFun eA1 4).trans (uA_ne (by decide))).trans (hFx.2 4 rfl))) _).trans (e_le)) (at0 := at2_14) (e_at0 := show G12 10 = at2_14 from (e19)) (fk := fk2_16) (e_fk := show G12 16 = fk2_16 from (e21)) (op0 := op1) (e_op0 := show G12 15 = op1 from ((hF18.1 15 rfl).trans (ex_op1))) (nd := nd1) (e_nd := show G12 31 = nd1 from ((hF18.1 31 rfl).trans (ex_nd1))) (tk0 := tk2_15) (e_tk0 := show G12 11 = tk2_15 from (e20))  (h_ch := by omega)  (p_0 := by omega) (p_1 := by omega) (p_2 := by omega) (p_3 := by omega) (p_4 := by omega)) (fun o V' hq => ?_)
            obtain ⟨G82, A83, r84, at2_85, fk2_86, op2_87, nd2_88, tk2_89, rfl, rfl, hW90, hF91, b92, e93, e94, e95, e96, e97, p98, p99, p100, p101, p102, p103, q104⟩ := hq
            have hF105 := Fr_tr hF25 hF91 (Fr_sub (by decide)) (Fr_sub (by decide))
            have bat2_85 : (0 : Int) ≤ at2_85 ∧ at2_85 ≤ 3002 := e93 ▸ hW90.1 10
            have bfk2_86 : (0 : Int) ≤ fk2_86 ∧ fk2_86 ≤ 6 := e94 ▸ hW90.1 16
            have bop2_87 : (-2147483648 : Int) ≤ op2_87 ∧ op2_87 ≤ 2147483647 := e95 ▸ hW90.1 15
            have bnd2_88 : (0 : Int) ≤ nd2_88 ∧ nd2_88 ≤ 6999 := e96 ▸ hW90.1 31
            have ztk2_89 := tz_b tk2_89
            have btk2_89 : (0 : Int) ≤ tk2_89 ∧ tk2_89 ≤ 5 := e97 ▸ hW90.1 11
            refine .inr ⟨_, rfl, ?_⟩
            rcases q104 with ⟨a106, a107, a108, a109, a110, a111⟩ | ⟨a112, a113, a114⟩ | ⟨a115, a116, a117⟩
            · have _q : True := trivial
              refine jr_st (pc' := 338) (i := 18) (m := 7000) (z := one) (y := r84) rfl (by decide) rfl (by decide) (by omega) (by omega) rfl ?_
              have hW119 : Wk G82 (uA A83 18 (one).toNat (r84)) := Wk_a hW90 (show (-2147483648 : Int) ≤ r84 by omega) (show r84 ≤ (2147483647 : Int) by omega)
              have hF120 := Fr_a (z := r84) (k := 18) (n := (one).toNat) hF105 (by decide)
              obtain ⟨A118, eA118⟩ : ∃ q, q = uA A83 18 (one).toNat (r84) := ⟨_, rfl⟩
              rw [← eA118]
              rw [← eA118] at hW119 hF120
              have q121 : A118 18 (one).toNat = r84 := by rw [eA118]; exact uA_eq
              refine jx_ld (pc' := 339) (l' := L) (st' := [.ref 66]) rfl (jl_aloadn gL_0) ?_
              refine jx_ld (pc' := 340) (l' := L) (st' := [.ref 66, .ref 66]) rfl (jl_aloadn gL_0) ?_
              refine jx_ar (pc' := 342) (st' := [.int (i32 (63)), .ref 66, .ref 66]) rfl rfl rfl rfl ?_
              have b122 : (-2147483648 : Int) ≤ G82 13 ∧ G82 13 ≤ 2147483647 := hW90.1 13
              refine jx_vr (pc' := 345) (as := [.int (i32 (63))]) (st := [.ref 66]) rfl rfl rfl rfl ⟨rfl, rfl, Nat.le_of_ble_eq_true rfl⟩ rfl rfl (c_is (dd := d) (hd := by omega) (hW := hW119) (k := 63) (tk := tk2_89) (e_tk := show G82 11 = tk2_89 from (e97)) (tn := G82 13) (e_tn := show G82 13 = G82 13 from rfl)  (h_k := by omega)  ) (fun o V' hq => ?_)
              obtain ⟨r123, rfl, rfl, b124, q125⟩ := hq
              refine .inr ⟨_, rfl, ?_⟩
              rcases q125 with ⟨rfl, a126, a127, a128⟩ | rfl
              · have _q : True := trivial
                refine jx_vr (pc' := 348) (as := [.int (i32 (1))]) (st := []) rfl rfl rfl rfl ⟨rfl, rfl, Nat.le_of_ble_eq_true rfl⟩ rfl rfl (c_need (dd := d) (hd := by omega) (hW := hW119) (g := 1) (ln := ln) (e_ln := show G82 9 = ln from ((hF91.1 9 rfl).trans ((hF18.1 9 rfl).trans (fx_9)))) (le := le) (e_le := show A118 4 (ln).toNat = le from (congrFun (((congrFun eA118 4).trans (uA_ne (by decide))).trans ((hF91.2 4 rfl).trans ((hF18.2 4 rfl).trans (((congrFun eA1 4).trans (uA_ne (by decide))).trans (hFx.2 4 rfl))))) _).trans (e_le)) (at0 := at2_85) (e_at0 := show G82 10 = at2_85 from (e93)) (fk := fk2_86) (e_fk := show G82 16 = fk2_86 from (e94)) (tk0 := tk2_89) (e_tk0 := show G82 11 = tk2_89 from (e97))  (h_g := by omega)  (p_0 := by omega)) (fun o V' hq => ?_)
                obtain ⟨G129, A130, at2_131, tk2_132, fk2_133, rfl, rfl, hW134, hF135, e136, e137, e138, p139, p140, q141⟩ := hq
                have hF142 := Fr_tr hF120 hF135 (Fr_sub (by decide)) (Fr_sub (by decide))
                have bat2_131 : (0 : Int) ≤ at2_131 ∧ at2_131 ≤ 3002 := e136 ▸ hW134.1 10
                have ztk2_132 := tz_b tk2_132
                have btk2_132 : (0 : Int) ≤ tk2_132 ∧ tk2_132 ≤ 5 := e137 ▸ hW134.1 11
                have bfk2_133 : (0 : Int) ≤ fk2_133 ∧ fk2_133 ≤ 6 := e138 ▸ hW134.1 16
                refine .inl ⟨rfl, ?_⟩
                rcases q141 with ⟨a143, a144, a145, a146⟩ | ⟨a147, a148, a149, a150⟩
                · have _q : True := trivial
                  refine jx_ld (pc' := 349) (l' := L) (st' := [.ref 66]) rfl (jl_aloadn gL_0) ?_
                  refine jr_get (pc' := 352) (i := 36) (v := .ref 86) rfl rfl (by decide) rfl rfl ?_
                  refine jx_ld (pc' := 353) (l' := L) (st' := [.int (i32 (one)), .ref 86]) rfl (jl_iloadn gL_1) ?_
                  refine jx_ld (pc' := 354) (l' := L) (st' := [.ref 66, .int (i32 (one)), .ref 86]) rfl (jl_aloadn gL_0) ?_
                  refine jx_ar (pc' := 355) (st' := [.int (i32 (0)), .ref 66, .int (i32 (one)), .ref 86]) rfl rfl rfl rfl ?_
                  refine jx_vr (pc' := 358) (as := [.int (i32 (0))]) (st := [.int (i32 (one)), .ref 86]) rfl rfl rfl rfl ⟨rfl, rfl, Nat.le_of_ble_eq_true rfl⟩ rfl rfl (c_readReference (dd := d) (hd := by omega) (hW := hW134) (ch := 0) (ln := ln) (e_ln := show G129 9 = ln from ((hF135.1 9 rfl).trans ((hF91.1 9 rfl).trans ((hF18.1 9 rfl).trans (fx_9))))) (le := le) (e_le := show A130 4 (ln).toNat = le from (congrFun ((hF135.2 4 rfl).trans (((congrFun eA118 4).trans (uA_ne (by decide))).trans ((hF91.2 4 rfl).trans ((hF18.2 4 rfl).trans (((congrFun eA1 4).trans (uA_ne (by decide))).trans (hFx.2 4 rfl)))))) _).trans (e_le)) (at0 := at2_131) (e_at0 := show G129 10 = at2_131 from (e136)) (fk := fk2_133) (e_fk := show G129 16 = fk2_133 from (e138)) (op0 := op2_87) (e_op0 := show G129 15 = op2_87 from ((hF135.1 15 rfl).trans (e95))) (nd := nd2_88) (e_nd := show G129 31 = nd2_88 from ((hF135.1 31 rfl).trans (e96))) (tk0 := tk2_132) (e_tk0 := show G129 11 = tk2_132 from (e137))  (h_ch := by omega)  (p_0 := by omega) (p_1 := by omega) (p_2 := by omega) (p_3 := by omega) (p_4 := by omega)) (fun o V' hq => ?_)
                  obtain ⟨G151, A152, r153, at2_154, fk2_155, op2_156, nd2_157, tk2_158, rfl, rfl, hW159, hF160, b161, e162, e163, e164, e165, e166, p167, p168, p169, p170, p171, p172, q173⟩ := hq
                  have hF174 := Fr_tr hF142 hF160 (Fr_sub (by decide)) (Fr_sub (by decide))
                  have bat2_154 : (0 : Int) ≤ at2_154 ∧ at2_154 ≤ 3002 := e162 ▸ hW159.1 10
                  have bfk2_155 : (0 : Int) ≤ fk2_155 ∧ fk2_155 ≤ 6 := e163 ▸ hW159.1 16
                  have bop2_156 : (-2147483648 : Int) ≤ op2_156 ∧ op2_156 ≤ 2147483647 := e164 ▸ hW159.1 15
                  have bnd2_157 : (0 : Int) ≤ nd2_157 ∧ nd2_157 ≤ 6999 := e165 ▸ hW159.1 31
                  have ztk2_158 := tz_b tk2_158
                  have btk2_158 : (0 : Int) ≤ tk2_158 ∧ tk2_158 ≤ 5 := e166 ▸ hW159.1 11
                  refine .inr ⟨_, rfl, ?_⟩
                  rcases q173 with ⟨a175, a176, a177, a178, a179, a180⟩ | ⟨a181, a182, a183⟩ | ⟨a184, a185, a186⟩
                  · have _q : True := trivial
                    refine jr_st (pc' := 359) (i := 19) (m := 7000) (z := one) (y := r153) rfl (by decide) rfl (by decide) (by omega) (by omega) rfl ?_
                    have hW188 : Wk G151 (uA A152 19 (one).toNat (r153)) := Wk_a hW159 (show (-2147483648 : Int) ≤ r153 by omega) (show r153 ≤ (2147483647 : Int) by omega)
                    have hF189 := Fr_a (z := r153) (k := 19) (n := (one).toNat) hF174 (by decide)
                    obtain ⟨A187, eA187⟩ : ∃ q, q = uA A152 19 (one).toNat (r153) := ⟨_, rfl⟩
                    rw [← eA187]
                    rw [← eA187] at hW188 hF189
                    have q190 : A187 19 (one).toNat = r153 := by rw [eA187]; exact uA_eq
                    refine jx_ld (pc' := 360) (l' := L) (st' := [.ref 66]) rfl (jl_aloadn gL_0) ?_
                    refine jx_vr (pc' := 363) (as := []) (st := []) rfl rfl rfl rfl ⟨rfl, rfl, Nat.le_of_ble_eq_true rfl⟩ rfl rfl (c_endLine (dd := d) (hd := by omega) (hW := hW188)  (ln := ln) (e_ln := show G151 9 = ln from ((hF160.1 9 rfl).trans ((hF135.1 9 rfl).trans ((hF91.1 9 rfl).trans ((hF18.1 9 rfl).trans (fx_9)))))) (li := li) (e_li := show G151 3 = li from ((hF160.1 3 rfl).trans ((hF135.1 3 rfl).trans ((hF91.1 3 rfl).trans ((hF18.1 3 rfl).trans ((hFx.1 3 rfl).trans (e_li))))))) (fk := fk2_155) (e_fk := show G151 16 = fk2_155 from (e163)) (tk0 := tk2_158) (e_tk0 := show G151 11 = tk2_158 from (e166))    (p_0 := by omega)) (fun o V' hq => ?_)
                    obtain ⟨G191, A192, ln2_193, fk2_194, rfl, rfl, hW195, hF196, e197, e198, q199⟩ := hq
                    have hF200 := Fr_tr hF189 hF196 (Fr_sub (by decide)) (Fr_sub (by decide))
                    have bln2_193 : (0 : Int) ≤ ln2_193 ∧ ln2_193 ≤ 3000 := e197 ▸ hW195.1 9
                    have bfk2_194 : (0 : Int) ≤ fk2_194 ∧ fk2_194 ≤ 6 := e198 ▸ hW195.1 16
                    refine .inl ⟨rfl, ?_⟩
                    rcases q199 with ⟨a201, a202, a203, a204, a205⟩ | ⟨a206, a207⟩
                    · have _q : True := trivial
                      exfalso
                      omega
                    · have _q : True := trivial
                      refine jx_ld (pc' := 364) (l' := L) (st' := [.int (i32 (one))]) rfl (jl_iloadn gL_1) ?_
                      refine jx_rt (v := some (.int (i32 (one)))) rfl rfl rfl rfl rfl rfl ?_
                      exact ⟨_, _, _, at2_154, fk2_194, nd2_157, ln2_193, rfl, rfl, hW195, hF200, by omega, ((hF196.1 10 rfl).trans (e162)), (e198), ((hF196.1 31 rfl).trans (e165)), (e197), by omega, by omega, by omega, by omega, by omega, by first | exact Or.inl (⟨by omega, by omega, by omega⟩) | exact Or.inr ((⟨by omega, by omega, by omega⟩))⟩
                  · have _q : True := trivial
                    exfalso
                    omega
                  · have _q : True := trivial
                    exfalso
                    omega
                · have _q : True := trivial
                  exfalso
                  omega
              · have _q : True := trivial
                refine jx_vr (pc' := 348) (as := [.int (i32 (0))]) (st := []) rfl rfl rfl rfl ⟨rfl, rfl, Nat.le_of_ble_eq_true rfl⟩ rfl rfl (c_need (dd := d) (hd := by omega) (hW := hW119) (g := 0) (ln := ln) (e_ln := show G82 9 = ln from ((hF91.1 9 rfl).trans ((hF18.1 9 rfl).trans (fx_9)))) (le := le) (e_le := show A118 4 (ln).toNat = le from (congrFun (((congrFun eA118 4).trans (uA_ne (by decide))).trans ((hF91.2 4 rfl).trans ((hF18.2 4 rfl).trans (((congrFun eA1 4).trans (uA_ne (by decide))).trans (hFx.2 4 rfl))))) _).trans (e_le)) (at0 := at2_85) (e_at0 := show G82 10 = at2_85 from (e93)) (fk := fk2_86) (e_fk := show G82 16 = fk2_86 from (e94)) (tk0 := tk2_89) (e_tk0 := show G82 11 = tk2_89 from (e97))  (h_g := by omega)  (p_0 := by omega)) (fun o V' hq => ?_)
                obtain ⟨G208, A209, at2_210, tk2_211, fk2_212, rfl, rfl, hW213, hF214, e215, e216, e217, p218, p219, q220⟩ := hq
                have hF221 := Fr_tr hF120 hF214 (Fr_sub (by decide)) (Fr_sub (by decide))
                have bat2_210 : (0 : Int) ≤ at2_210 ∧ at2_210 ≤ 3002 := e215 ▸ hW213.1 10
                have ztk2_211 := tz_b tk2_211
                have btk2_211 : (0 : Int) ≤ tk2_211 ∧ tk2_211 ≤ 5 := e216 ▸ hW213.1 11
                have bfk2_212 : (0 : Int) ≤ fk2_212 ∧ fk2_212 ≤ 6 := e217 ▸ hW213.1 16
                refine .inl ⟨rfl, ?_⟩
                rcases q220 with ⟨a222, a223, a224, a225⟩ | ⟨a226, a227, a228, a229⟩
                · have _q : True := trivial
                  refine jx_ld (pc' := 349) (l' := L) (st' := [.ref 66]) rfl (jl_aloadn gL_0) ?_
                  refine jr_get (pc' := 352) (i := 36) (v := .ref 86) rfl rfl (by decide) rfl rfl ?_
                  refine jx_ld (pc' := 353) (l' := L) (st' := [.int (i32 (one)), .ref 86]) rfl (jl_iloadn gL_1) ?_
                  refine jx_ld (pc' := 354) (l' := L) (st' := [.ref 66, .int (i32 (one)), .ref 86]) rfl (jl_aloadn gL_0) ?_
                  refine jx_ar (pc' := 355) (st' := [.int (i32 (0)), .ref 66, .int (i32 (one)), .ref 86]) rfl rfl rfl rfl ?_
                  refine jx_vr (pc' := 358) (as := [.int (i32 (0))]) (st := [.int (i32 (one)), .ref 86]) rfl rfl rfl rfl ⟨rfl, rfl, Nat.le_of_ble_eq_true rfl⟩ rfl rfl (c_readReference (dd := d) (hd := by omega) (hW := hW213) (ch := 0) (ln := ln) (e_ln := show G208 9 = ln from ((hF214.1 9 rfl).trans ((hF91.1 9 rfl).trans ((hF18.1 9 rfl).trans (fx_9))))) (le := le) (e_le := show A209 4 (ln).toNat = le from (congrFun ((hF214.2 4 rfl).trans (((congrFun eA118 4).trans (uA_ne (by decide))).trans ((hF91.2 4 rfl).trans ((hF18.2 4 rfl).trans (((congrFun eA1 4).trans (uA_ne (by decide))).trans (hFx.2 4 rfl)))))) _).trans (e_le)) (at0 := at2_210) (e_at0 := show G208 10 = at2_210 from (e215)) (fk := fk2_212) (e_fk := show G208 16 = fk2_212 from (e217)) (op0 := op2_87) (e_op0 := show G208 15 = op2_87 from ((hF214.1 15 rfl).trans (e95))) (nd := nd2_88) (e_nd := show G208 31 = nd2_88 from ((hF214.1 31 rfl).trans (e96))) (tk0 := tk2_211) (e_tk0 := show G208 11 = tk2_211 from (e216))  (h_ch := by omega)  (p_0 := by omega) (p_1 := by omega) (p_2 := by omega) (p_3 := by omega) (p_4 := by omega)) (fun o V' hq => ?_)
                  obtain ⟨G230, A231, r232, at2_233, fk2_234, op2_235, nd2_236, tk2_237, rfl, rfl, hW238, hF239, b240, e241, e242, e243, e244, e245, p246, p247, p248, p249, p250, p251, q252⟩ := hq
                  have hF253 := Fr_tr hF221 hF239 (Fr_sub (by decide)) (Fr_sub (by decide))
                  have bat2_233 : (0 : Int) ≤ at2_233 ∧ at2_233 ≤ 3002 := e241 ▸ hW238.1 10
                  have bfk2_234 : (0 : Int) ≤ fk2_234 ∧ fk2_234 ≤ 6 := e242 ▸ hW238.1 16
                  have bop2_235 : (-2147483648 : Int) ≤ op2_235 ∧ op2_235 ≤ 2147483647 := e243 ▸ hW238.1 15
                  have bnd2_236 : (0 : Int) ≤ nd2_236 ∧ nd2_236 ≤ 6999 := e244 ▸ hW238.1 31
                  have ztk2_237 := tz_b tk2_237
                  have btk2_237 : (0 : Int) ≤ tk2_237 ∧ tk2_237 ≤ 5 := e245 ▸ hW238.1 11
                  refine .inr ⟨_, rfl, ?_⟩
                  rcases q252 with ⟨a254, a255, a256, a257, a258, a259⟩ | ⟨a260, a261, a262⟩ | ⟨a263, a264, a265⟩
                  · have _q : True := trivial
                    refine jr_st (pc' := 359) (i := 19) (m := 7000) (z := one) (y := r232) rfl (by decide) rfl (by decide) (by omega) (by omega) rfl ?_
                    have hW267 : Wk G230 (uA A231 19 (one).toNat (r232)) := Wk_a hW238 (show (-2147483648 : Int) ≤ r232 by omega) (show r232 ≤ (2147483647 : Int) by omega)
                    have hF268 := Fr_a (z := r232) (k := 19) (n := (one).toNat) hF253 (by decide)
                    obtain ⟨A266, eA266⟩ : ∃ q, q = uA A231 19 (one).toNat (r232) := ⟨_, rfl⟩
                    rw [← eA266]
                    rw [← eA266] at hW267 hF268
                    have q269 : A266 19 (one).toNat = r232 := by rw [eA266]; exact uA_eq
                    refine jx_ld (pc' := 360) (l' := L) (st' := [.ref 66]) rfl (jl_aloadn gL_0) ?_
                    refine jx_vr (pc' := 363) (as := []) (st := []) rfl rfl rfl rfl ⟨rfl, rfl, Nat.le_of_ble_eq_true rfl⟩ rfl rfl (c_endLine (dd := d) (hd := by omega) (hW := hW267)  (ln := ln) (e_ln := show G230 9 = ln from ((hF239.1 9 rfl).trans ((hF214.1 9 rfl).trans ((hF91.1 9 rfl).trans ((hF18.1 9 rfl).trans (fx_9)))))) (li := li) (e_li := show G230 3 = li from ((hF239.1 3 rfl).trans ((hF214.1 3 rfl).trans ((hF91.1 3 rfl).trans ((hF18.1 3 rfl).trans ((hFx.1 3 rfl).trans (e_li))))))) (fk := fk2_234) (e_fk := show G230 16 = fk2_234 from (e242)) (tk0 := tk2_237) (e_tk0 := show G230 11 = tk2_237 from (e245))    (p_0 := by omega)) (fun o V' hq => ?_)
                    obtain ⟨G270, A271, ln2_272, fk2_273, rfl, rfl, hW274, hF275, e276, e277, q278⟩ := hq
                    have hF279 := Fr_tr hF268 hF275 (Fr_sub (by decide)) (Fr_sub (by decide))
                    have bln2_272 : (0 : Int) ≤ ln2_272 ∧ ln2_272 ≤ 3000 := e276 ▸ hW274.1 9
                    have bfk2_273 : (0 : Int) ≤ fk2_273 ∧ fk2_273 ≤ 6 := e277 ▸ hW274.1 16
                    refine .inl ⟨rfl, ?_⟩
                    rcases q278 with ⟨a280, a281, a282, a283, a284⟩ | ⟨a285, a286⟩
                    · have _q : True := trivial
                      exfalso
                      omega
                    · have _q : True := trivial
                      refine jx_ld (pc' := 364) (l' := L) (st' := [.int (i32 (one))]) rfl (jl_iloadn gL_1) ?_
                      refine jx_rt (v := some (.int (i32 (one)))) rfl rfl rfl rfl rfl rfl ?_
                      exact ⟨_, _, _, at2_233, fk2_273, nd2_236, ln2_272, rfl, rfl, hW274, hF279, by omega, ((hF275.1 10 rfl).trans (e241)), (e277), ((hF275.1 31 rfl).trans (e244)), (e276), by omega, by omega, by omega, by omega, by omega, by first | exact Or.inl (⟨by omega, by omega, by omega⟩) | exact Or.inr ((⟨by omega, by omega, by omega⟩))⟩
                  · have _q : True := trivial
                    exfalso
                    omega
                  · have _q : True := trivial
                    exfalso
                    omega
                · have _q : True := trivial
                  exfalso
                  omega
            · have _q : True := trivial
              exfalso
              omega
            · have _q : True := trivial
              exfalso
              omega
          · have _q := h81
            exact absurd h81 (by omega)
      · have _q : True := trivial
        refine jx_ld (pc' := 311) (l' := L) (st' := [.ref 66]) rfl (jl_aloadn gL_0) ?_
        refine jx_ar (pc' := 313) (st' := [.int (i32 (7)), .ref 66]) rfl rfl rfl rfl ?_
        have b287 : (-2147483648 : Int) ≤ G12 13 ∧ G12 13 ≤ 2147483647 := hW17.1 13
        refine jx_vr (pc' := 316) (as := [.int (i32 (7))]) (st := []) rfl rfl rfl rfl ⟨rfl, rfl, Nat.le_of_ble_eq_true rfl⟩ rfl rfl (c_isKey (dd := d) (hd := by omega) (hW := hW17) (k := 7) (tk := tk2_15) (e_tk := show G12 11 = tk2_15 from (e20)) (tn := G12 13) (e_tn := show G12 13 = G12 13 from rfl)  (h_k := by omega)  ) (fun o V' hq => ?_)
        obtain ⟨r288, rfl, rfl, b289, q290⟩ := hq
        refine .inr ⟨_, rfl, ?_⟩
        rcases q290 with ⟨rfl, a291, a292, a293⟩ | rfl
        · have _q : True := trivial
          refine jx_if_eq (pc' := 319) (tg := 327) rfl rfl rfl (by omega) (by omega) (fun h294 => ?_) (fun h294 => ?_)
          · have _q := h294
            exact absurd h294 (by omega)
          · have _q := h294
            refine jx_ld (pc' := 320) (l' := L) (st' := [.ref 66]) rfl (jl_aloadn gL_0) ?_
            refine jx_ar (pc' := 321) (st' := [.int (i32 (1)), .ref 66]) rfl rfl rfl rfl ?_
            refine jx_vr (pc' := 324) (as := [.int (i32 (1))]) (st := []) rfl rfl rfl rfl ⟨rfl, rfl, Nat.le_of_ble_eq_true rfl⟩ rfl rfl (c_need (dd := d) (hd := by omega) (hW := hW17) (g := 1) (ln := ln) (e_ln := show G12 9 = ln from ((hF18.1 9 rfl).trans (fx_9))) (le := le) (e_le := show A13 4 (ln).toNat = le from (congrFun ((hF18.2 4 rfl).trans (((congrFun eA1 4).trans (uA_ne (by decide))).trans (hFx.2 4 rfl))) _).trans (e_le)) (at0 := at2_14) (e_at0 := show G12 10 = at2_14 from (e19)) (fk := fk2_16) (e_fk := show G12 16 = fk2_16 from (e21)) (tk0 := tk2_15) (e_tk0 := show G12 11 = tk2_15 from (e20))  (h_g := by omega)  (p_0 := by omega)) (fun o V' hq => ?_)
            obtain ⟨G295, A296, at2_297, tk2_298, fk2_299, rfl, rfl, hW300, hF301, e302, e303, e304, p305, p306, q307⟩ := hq
            have hF308 := Fr_tr hF25 hF301 (Fr_sub (by decide)) (Fr_sub (by decide))
            have bat2_297 : (0 : Int) ≤ at2_297 ∧ at2_297 ≤ 3002 := e302 ▸ hW300.1 10
            have ztk2_298 := tz_b tk2_298
            have btk2_298 : (0 : Int) ≤ tk2_298 ∧ tk2_298 ≤ 5 := e303 ▸ hW300.1 11
            have bfk2_299 : (0 : Int) ≤ fk2_299 ∧ fk2_299 ≤ 6 := e304 ▸ hW300.1 16
            refine .inl ⟨rfl, ?_⟩
            rcases q307 with ⟨a309, a310, a311, a312⟩ | ⟨a313, a314, a315, a316⟩
            · have _q : True := trivial
              refine jx_go (tg := 359) rfl rfl ?_
              refine jx_ld (pc' := 360) (l' := L) (st' := [.ref 66]) rfl (jl_aloadn gL_0) ?_
              refine jx_vr (pc' := 363) (as := []) (st := []) rfl rfl rfl rfl ⟨rfl, rfl, Nat.le_of_ble_eq_true rfl⟩ rfl rfl (c_endLine (dd := d) (hd := by omega) (hW := hW300)  (ln := ln) (e_ln := show G295 9 = ln from ((hF301.1 9 rfl).trans ((hF18.1 9 rfl).trans (fx_9)))) (li := li) (e_li := show G295 3 = li from ((hF301.1 3 rfl).trans ((hF18.1 3 rfl).trans ((hFx.1 3 rfl).trans (e_li))))) (fk := fk2_299) (e_fk := show G295 16 = fk2_299 from (e304)) (tk0 := tk2_298) (e_tk0 := show G295 11 = tk2_298 from (e303))    (p_0 := by omega)) (fun o V' hq => ?_)
              obtain ⟨G317, A318, ln2_319, fk2_320, rfl, rfl, hW321, hF322, e323, e324, q325⟩ := hq
              have hF326 := Fr_tr hF308 hF322 (Fr_sub (by decide)) (Fr_sub (by decide))
              have bln2_319 : (0 : Int) ≤ ln2_319 ∧ ln2_319 ≤ 3000 := e323 ▸ hW321.1 9
              have bfk2_320 : (0 : Int) ≤ fk2_320 ∧ fk2_320 ≤ 6 := e324 ▸ hW321.1 16
              refine .inl ⟨rfl, ?_⟩
              rcases q325 with ⟨a327, a328, a329, a330, a331⟩ | ⟨a332, a333⟩
              · have _q : True := trivial
                exfalso
                omega
              · have _q : True := trivial
                refine jx_ld (pc' := 364) (l' := L) (st' := [.int (i32 (one))]) rfl (jl_iloadn gL_1) ?_
                refine jx_rt (v := some (.int (i32 (one)))) rfl rfl rfl rfl rfl rfl ?_
                exact ⟨_, _, _, at2_297, fk2_320, nd1, ln2_319, rfl, rfl, hW321, hF326, by omega, ((hF322.1 10 rfl).trans (e302)), (e324), ((hF322.1 31 rfl).trans ((hF301.1 31 rfl).trans ((hF18.1 31 rfl).trans (ex_nd1)))), (e323), by omega, by omega, by omega, by omega, by omega, by first | exact Or.inl (⟨by omega, by omega, by omega⟩) | exact Or.inr ((⟨by omega, by omega, by omega⟩))⟩
            · have _q : True := trivial
              refine jx_go (tg := 359) rfl rfl ?_
              refine jx_ld (pc' := 360) (l' := L) (st' := [.ref 66]) rfl (jl_aloadn gL_0) ?_
              refine jx_vr (pc' := 363) (as := []) (st := []) rfl rfl rfl rfl ⟨rfl, rfl, Nat.le_of_ble_eq_true rfl⟩ rfl rfl (c_endLine (dd := d) (hd := by omega) (hW := hW300)  (ln := ln) (e_ln := show G295 9 = ln from ((hF301.1 9 rfl).trans ((hF18.1 9 rfl).trans (fx_9)))) (li := li) (e_li := show G295 3 = li from ((hF301.1 3 rfl).trans ((hF18.1 3 rfl).trans ((hFx.1 3 rfl).trans (e_li))))) (fk := fk2_299) (e_fk := show G295 16 = fk2_299 from (e304)) (tk0 := tk2_298) (e_tk0 := show G295 11 = tk2_298 from (e303))    (p_0 := by omega)) (fun o V' hq => ?_)
              obtain ⟨G334, A335, ln2_336, fk2_337, rfl, rfl, hW338, hF339, e340, e341, q342⟩ := hq
              have hF343 := Fr_tr hF308 hF339 (Fr_sub (by decide)) (Fr_sub (by decide))
              have bln2_336 : (0 : Int) ≤ ln2_336 ∧ ln2_336 ≤ 3000 := e340 ▸ hW338.1 9
              have bfk2_337 : (0 : Int) ≤ fk2_337 ∧ fk2_337 ≤ 6 := e341 ▸ hW338.1 16
              refine .inl ⟨rfl, ?_⟩
              rcases q342 with ⟨a344, a345, a346, a347, a348⟩ | ⟨a349, a350⟩
              · have _q : True := trivial
                refine jx_ld (pc' := 364) (l' := L) (st' := [.int (i32 (one))]) rfl (jl_iloadn gL_1) ?_
                refine jx_rt (v := some (.int (i32 (one)))) rfl rfl rfl rfl rfl rfl ?_
                exact ⟨_, _, _, at2_297, fk2_337, nd1, ln2_336, rfl, rfl, hW338, hF343, by omega, ((hF339.1 10 rfl).trans (e302)), (e341), ((hF339.1 31 rfl).trans ((hF301.1 31 rfl).trans ((hF18.1 31 rfl).trans (ex_nd1)))), (e340), by omega, by omega, by omega, by omega, by omega, by first | exact Or.inl (⟨by omega, by omega, by omega⟩) | exact Or.inr ((⟨by omega, by omega, by omega⟩))⟩
              · have _q : True := trivial
                refine jx_ld (pc' := 364) (l' := L) (st' := [.int (i32 (one))]) rfl (jl_iloadn gL_1) ?_
                refine jx_rt (v := some (.int (i32 (one)))) rfl rfl rfl rfl rfl rfl ?_
                exact ⟨_, _, _, at2_297, fk2_337, nd1, ln2_336, rfl, rfl, hW338, hF343, by omega, ((hF339.1 10 rfl).trans (e302)), (e341), ((hF339.1 31 rfl).trans ((hF301.1 31 rfl).trans ((hF18.1 31 rfl).trans (ex_nd1)))), (e340), by omega, by omega, by omega, by omega, by omega, by first | exact Or.inl (⟨by omega, by omega, by omega⟩) | exact Or.inr ((⟨by omega, by omega, by omega⟩))⟩
        · have _q : True := trivial
          refine jx_if_eq (pc' := 319) (tg := 327) rfl rfl rfl (by omega) (by omega) (fun h351 => ?_) (fun h351 => ?_)
          · have _q := h351
            refine jx_ld (pc' := 328) (l' := L) (st' := [.ref 66]) rfl (jl_aloadn gL_0) ?_
            refine jr_get (pc' := 331) (i := 35) (v := .ref 85) rfl rfl (by decide) rfl rfl ?_
            refine jx_ld (pc' := 332) (l' := L) (st' := [.int (i32 (one)), .ref 85]) rfl (jl_iloadn gL_1) ?_
            refine jx_ld (pc' := 333) (l' := L) (st' := [.ref 66, .int (i32 (one)), .ref 85]) rfl (jl_aloadn gL_0) ?_
            refine jx_ar (pc' := 334) (st' := [.int (i32 (1)), .ref 66, .int (i32 (one)), .ref 85]) rfl rfl rfl rfl ?_
            refine jx_vr (pc' := 337) (as := [.int (i32 (1))]) (st := [.int (i32 (one)), .ref 85]) rfl rfl rfl rfl ⟨rfl, rfl, Nat.le_of_ble_eq_true rfl⟩ rfl rfl (c_readReference (dd := d) (hd := by omega) (hW := hW17) (ch := 1) (ln := ln) (e_ln := show G12 9 = ln from ((hF18.1 9 rfl).trans (fx_9))) (le := le) (e_le := show A13 4 (ln).toNat = le from (congrFun ((hF18.2 4 rfl).trans (((congrFun eA1 4).trans (uA_ne (by decide))).trans (hFx.2 4 rfl))) _).trans (e_le)) (at0 := at2_14) (e_at0 := show G12 10 = at2_14 from (e19)) (fk := fk2_16) (e_fk := show G12 16 = fk2_16 from (e21)) (op0 := op1) (e_op0 := show G12 15 = op1 from ((hF18.1 15 rfl).trans (ex_op1))) (nd := nd1) (e_nd := show G12 31 = nd1 from ((hF18.1 31 rfl).trans (ex_nd1))) (tk0 := tk2_15) (e_tk0 := show G12 11 = tk2_15 from (e20))  (h_ch := by omega)  (p_0 := by omega) (p_1 := by omega) (p_2 := by omega) (p_3 := by omega) (p_4 := by omega)) (fun o V' hq => ?_)
            obtain ⟨G352, A353, r354, at2_355, fk2_356, op2_357, nd2_358, tk2_359, rfl, rfl, hW360, hF361, b362, e363, e364, e365, e366, e367, p368, p369, p370, p371, p372, p373, q374⟩ := hq
            have hF375 := Fr_tr hF25 hF361 (Fr_sub (by decide)) (Fr_sub (by decide))
            have bat2_355 : (0 : Int) ≤ at2_355 ∧ at2_355 ≤ 3002 := e363 ▸ hW360.1 10
            have bfk2_356 : (0 : Int) ≤ fk2_356 ∧ fk2_356 ≤ 6 := e364 ▸ hW360.1 16
            have bop2_357 : (-2147483648 : Int) ≤ op2_357 ∧ op2_357 ≤ 2147483647 := e365 ▸ hW360.1 15
            have bnd2_358 : (0 : Int) ≤ nd2_358 ∧ nd2_358 ≤ 6999 := e366 ▸ hW360.1 31
            have ztk2_359 := tz_b tk2_359
            have btk2_359 : (0 : Int) ≤ tk2_359 ∧ tk2_359 ≤ 5 := e367 ▸ hW360.1 11
            refine .inr ⟨_, rfl, ?_⟩
            rcases q374 with ⟨a376, a377, a378, a379, a380, a381⟩ | ⟨a382, a383, a384⟩ | ⟨a385, a386, a387⟩
            · have _q : True := trivial
              exfalso
              omega
            · have _q : True := trivial
              refine jr_st (pc' := 338) (i := 18) (m := 7000) (z := one) (y := r354) rfl (by decide) rfl (by decide) (by omega) (by omega) rfl ?_
              have hW389 : Wk G352 (uA A353 18 (one).toNat (r354)) := Wk_a hW360 (show (-2147483648 : Int) ≤ r354 by omega) (show r354 ≤ (2147483647 : Int) by omega)
              have hF390 := Fr_a (z := r354) (k := 18) (n := (one).toNat) hF375 (by decide)
              obtain ⟨A388, eA388⟩ : ∃ q, q = uA A353 18 (one).toNat (r354) := ⟨_, rfl⟩
              rw [← eA388]
              rw [← eA388] at hW389 hF390
              have q391 : A388 18 (one).toNat = r354 := by rw [eA388]; exact uA_eq
              refine jx_ld (pc' := 339) (l' := L) (st' := [.ref 66]) rfl (jl_aloadn gL_0) ?_
              refine jx_ld (pc' := 340) (l' := L) (st' := [.ref 66, .ref 66]) rfl (jl_aloadn gL_0) ?_
              refine jx_ar (pc' := 342) (st' := [.int (i32 (63)), .ref 66, .ref 66]) rfl rfl rfl rfl ?_
              have b392 : (-2147483648 : Int) ≤ G352 13 ∧ G352 13 ≤ 2147483647 := hW360.1 13
              refine jx_vr (pc' := 345) (as := [.int (i32 (63))]) (st := [.ref 66]) rfl rfl rfl rfl ⟨rfl, rfl, Nat.le_of_ble_eq_true rfl⟩ rfl rfl (c_is (dd := d) (hd := by omega) (hW := hW389) (k := 63) (tk := tk2_359) (e_tk := show G352 11 = tk2_359 from (e367)) (tn := G352 13) (e_tn := show G352 13 = G352 13 from rfl)  (h_k := by omega)  ) (fun o V' hq => ?_)
              obtain ⟨r393, rfl, rfl, b394, q395⟩ := hq
              refine .inr ⟨_, rfl, ?_⟩
              rcases q395 with ⟨rfl, a396, a397, a398⟩ | rfl
              · have _q : True := trivial
                refine jx_vr (pc' := 348) (as := [.int (i32 (1))]) (st := []) rfl rfl rfl rfl ⟨rfl, rfl, Nat.le_of_ble_eq_true rfl⟩ rfl rfl (c_need (dd := d) (hd := by omega) (hW := hW389) (g := 1) (ln := ln) (e_ln := show G352 9 = ln from ((hF361.1 9 rfl).trans ((hF18.1 9 rfl).trans (fx_9)))) (le := le) (e_le := show A388 4 (ln).toNat = le from (congrFun (((congrFun eA388 4).trans (uA_ne (by decide))).trans ((hF361.2 4 rfl).trans ((hF18.2 4 rfl).trans (((congrFun eA1 4).trans (uA_ne (by decide))).trans (hFx.2 4 rfl))))) _).trans (e_le)) (at0 := at2_355) (e_at0 := show G352 10 = at2_355 from (e363)) (fk := fk2_356) (e_fk := show G352 16 = fk2_356 from (e364)) (tk0 := tk2_359) (e_tk0 := show G352 11 = tk2_359 from (e367))  (h_g := by omega)  (p_0 := by omega)) (fun o V' hq => ?_)
                obtain ⟨G399, A400, at2_401, tk2_402, fk2_403, rfl, rfl, hW404, hF405, e406, e407, e408, p409, p410, q411⟩ := hq
                have hF412 := Fr_tr hF390 hF405 (Fr_sub (by decide)) (Fr_sub (by decide))
                have bat2_401 : (0 : Int) ≤ at2_401 ∧ at2_401 ≤ 3002 := e406 ▸ hW404.1 10
                have ztk2_402 := tz_b tk2_402
                have btk2_402 : (0 : Int) ≤ tk2_402 ∧ tk2_402 ≤ 5 := e407 ▸ hW404.1 11
                have bfk2_403 : (0 : Int) ≤ fk2_403 ∧ fk2_403 ≤ 6 := e408 ▸ hW404.1 16
                refine .inl ⟨rfl, ?_⟩
                rcases q411 with ⟨a413, a414, a415, a416⟩ | ⟨a417, a418, a419, a420⟩
                · have _q : True := trivial
                  refine jx_ld (pc' := 349) (l' := L) (st' := [.ref 66]) rfl (jl_aloadn gL_0) ?_
                  refine jr_get (pc' := 352) (i := 36) (v := .ref 86) rfl rfl (by decide) rfl rfl ?_
                  refine jx_ld (pc' := 353) (l' := L) (st' := [.int (i32 (one)), .ref 86]) rfl (jl_iloadn gL_1) ?_
                  refine jx_ld (pc' := 354) (l' := L) (st' := [.ref 66, .int (i32 (one)), .ref 86]) rfl (jl_aloadn gL_0) ?_
                  refine jx_ar (pc' := 355) (st' := [.int (i32 (0)), .ref 66, .int (i32 (one)), .ref 86]) rfl rfl rfl rfl ?_
                  refine jx_vr (pc' := 358) (as := [.int (i32 (0))]) (st := [.int (i32 (one)), .ref 86]) rfl rfl rfl rfl ⟨rfl, rfl, Nat.le_of_ble_eq_true rfl⟩ rfl rfl (c_readReference (dd := d) (hd := by omega) (hW := hW404) (ch := 0) (ln := ln) (e_ln := show G399 9 = ln from ((hF405.1 9 rfl).trans ((hF361.1 9 rfl).trans ((hF18.1 9 rfl).trans (fx_9))))) (le := le) (e_le := show A400 4 (ln).toNat = le from (congrFun ((hF405.2 4 rfl).trans (((congrFun eA388 4).trans (uA_ne (by decide))).trans ((hF361.2 4 rfl).trans ((hF18.2 4 rfl).trans (((congrFun eA1 4).trans (uA_ne (by decide))).trans (hFx.2 4 rfl)))))) _).trans (e_le)) (at0 := at2_401) (e_at0 := show G399 10 = at2_401 from (e406)) (fk := fk2_403) (e_fk := show G399 16 = fk2_403 from (e408)) (op0 := op2_357) (e_op0 := show G399 15 = op2_357 from ((hF405.1 15 rfl).trans (e365))) (nd := nd2_358) (e_nd := show G399 31 = nd2_358 from ((hF405.1 31 rfl).trans (e366))) (tk0 := tk2_402) (e_tk0 := show G399 11 = tk2_402 from (e407))  (h_ch := by omega)  (p_0 := by omega) (p_1 := by omega) (p_2 := by omega) (p_3 := by omega) (p_4 := by omega)) (fun o V' hq => ?_)
                  obtain ⟨G421, A422, r423, at2_424, fk2_425, op2_426, nd2_427, tk2_428, rfl, rfl, hW429, hF430, b431, e432, e433, e434, e435, e436, p437, p438, p439, p440, p441, p442, q443⟩ := hq
                  have hF444 := Fr_tr hF412 hF430 (Fr_sub (by decide)) (Fr_sub (by decide))
                  have bat2_424 : (0 : Int) ≤ at2_424 ∧ at2_424 ≤ 3002 := e432 ▸ hW429.1 10
                  have bfk2_425 : (0 : Int) ≤ fk2_425 ∧ fk2_425 ≤ 6 := e433 ▸ hW429.1 16
                  have bop2_426 : (-2147483648 : Int) ≤ op2_426 ∧ op2_426 ≤ 2147483647 := e434 ▸ hW429.1 15
                  have bnd2_427 : (0 : Int) ≤ nd2_427 ∧ nd2_427 ≤ 6999 := e435 ▸ hW429.1 31
                  have ztk2_428 := tz_b tk2_428
                  have btk2_428 : (0 : Int) ≤ tk2_428 ∧ tk2_428 ≤ 5 := e436 ▸ hW429.1 11
                  refine .inr ⟨_, rfl, ?_⟩
                  rcases q443 with ⟨a445, a446, a447, a448, a449, a450⟩ | ⟨a451, a452, a453⟩ | ⟨a454, a455, a456⟩
                  · have _q : True := trivial
                    refine jr_st (pc' := 359) (i := 19) (m := 7000) (z := one) (y := r423) rfl (by decide) rfl (by decide) (by omega) (by omega) rfl ?_
                    have hW458 : Wk G421 (uA A422 19 (one).toNat (r423)) := Wk_a hW429 (show (-2147483648 : Int) ≤ r423 by omega) (show r423 ≤ (2147483647 : Int) by omega)
                    have hF459 := Fr_a (z := r423) (k := 19) (n := (one).toNat) hF444 (by decide)
                    obtain ⟨A457, eA457⟩ : ∃ q, q = uA A422 19 (one).toNat (r423) := ⟨_, rfl⟩
                    rw [← eA457]
                    rw [← eA457] at hW458 hF459
                    have q460 : A457 19 (one).toNat = r423 := by rw [eA457]; exact uA_eq
                    refine jx_ld (pc' := 360) (l' := L) (st' := [.ref 66]) rfl (jl_aloadn gL_0) ?_
                    refine jx_vr (pc' := 363) (as := []) (st := []) rfl rfl rfl rfl ⟨rfl, rfl, Nat.le_of_ble_eq_true rfl⟩ rfl rfl (c_endLine (dd := d) (hd := by omega) (hW := hW458)  (ln := ln) (e_ln := show G421 9 = ln from ((hF430.1 9 rfl).trans ((hF405.1 9 rfl).trans ((hF361.1 9 rfl).trans ((hF18.1 9 rfl).trans (fx_9)))))) (li := li) (e_li := show G421 3 = li from ((hF430.1 3 rfl).trans ((hF405.1 3 rfl).trans ((hF361.1 3 rfl).trans ((hF18.1 3 rfl).trans ((hFx.1 3 rfl).trans (e_li))))))) (fk := fk2_425) (e_fk := show G421 16 = fk2_425 from (e433)) (tk0 := tk2_428) (e_tk0 := show G421 11 = tk2_428 from (e436))    (p_0 := by omega)) (fun o V' hq => ?_)
                    obtain ⟨G461, A462, ln2_463, fk2_464, rfl, rfl, hW465, hF466, e467, e468, q469⟩ := hq
                    have hF470 := Fr_tr hF459 hF466 (Fr_sub (by decide)) (Fr_sub (by decide))
                    have bln2_463 : (0 : Int) ≤ ln2_463 ∧ ln2_463 ≤ 3000 := e467 ▸ hW465.1 9
                    have bfk2_464 : (0 : Int) ≤ fk2_464 ∧ fk2_464 ≤ 6 := e468 ▸ hW465.1 16
                    refine .inl ⟨rfl, ?_⟩
                    rcases q469 with ⟨a471, a472, a473, a474, a475⟩ | ⟨a476, a477⟩
                    · have _q : True := trivial
                      exfalso
                      omega
                    · have _q : True := trivial
                      refine jx_ld (pc' := 364) (l' := L) (st' := [.int (i32 (one))]) rfl (jl_iloadn gL_1) ?_
                      refine jx_rt (v := some (.int (i32 (one)))) rfl rfl rfl rfl rfl rfl ?_
                      exact ⟨_, _, _, at2_424, fk2_464, nd2_427, ln2_463, rfl, rfl, hW465, hF470, by omega, ((hF466.1 10 rfl).trans (e432)), (e468), ((hF466.1 31 rfl).trans (e435)), (e467), by omega, by omega, by omega, by omega, by omega, by first | exact Or.inl (⟨by omega, by omega, by omega⟩) | exact Or.inr ((⟨by omega, by omega, by omega⟩))⟩
                  · have _q : True := trivial
                    exfalso
                    omega
                  · have _q : True := trivial
                    exfalso
                    omega
                · have _q : True := trivial
                  exfalso
                  omega
              · have _q : True := trivial
                refine jx_vr (pc' := 348) (as := [.int (i32 (0))]) (st := []) rfl rfl rfl rfl ⟨rfl, rfl, Nat.le_of_ble_eq_true rfl⟩ rfl rfl (c_need (dd := d) (hd := by omega) (hW := hW389) (g := 0) (ln := ln) (e_ln := show G352 9 = ln from ((hF361.1 9 rfl).trans ((hF18.1 9 rfl).trans (fx_9)))) (le := le) (e_le := show A388 4 (ln).toNat = le from (congrFun (((congrFun eA388 4).trans (uA_ne (by decide))).trans ((hF361.2 4 rfl).trans ((hF18.2 4 rfl).trans (((congrFun eA1 4).trans (uA_ne (by decide))).trans (hFx.2 4 rfl))))) _).trans (e_le)) (at0 := at2_355) (e_at0 := show G352 10 = at2_355 from (e363)) (fk := fk2_356) (e_fk := show G352 16 = fk2_356 from (e364)) (tk0 := tk2_359) (e_tk0 := show G352 11 = tk2_359 from (e367))  (h_g := by omega)  (p_0 := by omega)) (fun o V' hq => ?_)
                obtain ⟨G478, A479, at2_480, tk2_481, fk2_482, rfl, rfl, hW483, hF484, e485, e486, e487, p488, p489, q490⟩ := hq
                have hF491 := Fr_tr hF390 hF484 (Fr_sub (by decide)) (Fr_sub (by decide))
                have bat2_480 : (0 : Int) ≤ at2_480 ∧ at2_480 ≤ 3002 := e485 ▸ hW483.1 10
                have ztk2_481 := tz_b tk2_481
                have btk2_481 : (0 : Int) ≤ tk2_481 ∧ tk2_481 ≤ 5 := e486 ▸ hW483.1 11
                have bfk2_482 : (0 : Int) ≤ fk2_482 ∧ fk2_482 ≤ 6 := e487 ▸ hW483.1 16
                refine .inl ⟨rfl, ?_⟩
                rcases q490 with ⟨a492, a493, a494, a495⟩ | ⟨a496, a497, a498, a499⟩
                · have _q : True := trivial
                  refine jx_ld (pc' := 349) (l' := L) (st' := [.ref 66]) rfl (jl_aloadn gL_0) ?_
                  refine jr_get (pc' := 352) (i := 36) (v := .ref 86) rfl rfl (by decide) rfl rfl ?_
                  refine jx_ld (pc' := 353) (l' := L) (st' := [.int (i32 (one)), .ref 86]) rfl (jl_iloadn gL_1) ?_
                  refine jx_ld (pc' := 354) (l' := L) (st' := [.ref 66, .int (i32 (one)), .ref 86]) rfl (jl_aloadn gL_0) ?_
                  refine jx_ar (pc' := 355) (st' := [.int (i32 (0)), .ref 66, .int (i32 (one)), .ref 86]) rfl rfl rfl rfl ?_
                  refine jx_vr (pc' := 358) (as := [.int (i32 (0))]) (st := [.int (i32 (one)), .ref 86]) rfl rfl rfl rfl ⟨rfl, rfl, Nat.le_of_ble_eq_true rfl⟩ rfl rfl (c_readReference (dd := d) (hd := by omega) (hW := hW483) (ch := 0) (ln := ln) (e_ln := show G478 9 = ln from ((hF484.1 9 rfl).trans ((hF361.1 9 rfl).trans ((hF18.1 9 rfl).trans (fx_9))))) (le := le) (e_le := show A479 4 (ln).toNat = le from (congrFun ((hF484.2 4 rfl).trans (((congrFun eA388 4).trans (uA_ne (by decide))).trans ((hF361.2 4 rfl).trans ((hF18.2 4 rfl).trans (((congrFun eA1 4).trans (uA_ne (by decide))).trans (hFx.2 4 rfl)))))) _).trans (e_le)) (at0 := at2_480) (e_at0 := show G478 10 = at2_480 from (e485)) (fk := fk2_482) (e_fk := show G478 16 = fk2_482 from (e487)) (op0 := op2_357) (e_op0 := show G478 15 = op2_357 from ((hF484.1 15 rfl).trans (e365))) (nd := nd2_358) (e_nd := show G478 31 = nd2_358 from ((hF484.1 31 rfl).trans (e366))) (tk0 := tk2_481) (e_tk0 := show G478 11 = tk2_481 from (e486))  (h_ch := by omega)  (p_0 := by omega) (p_1 := by omega) (p_2 := by omega) (p_3 := by omega) (p_4 := by omega)) (fun o V' hq => ?_)
                  obtain ⟨G500, A501, r502, at2_503, fk2_504, op2_505, nd2_506, tk2_507, rfl, rfl, hW508, hF509, b510, e511, e512, e513, e514, e515, p516, p517, p518, p519, p520, p521, q522⟩ := hq
                  have hF523 := Fr_tr hF491 hF509 (Fr_sub (by decide)) (Fr_sub (by decide))
                  have bat2_503 : (0 : Int) ≤ at2_503 ∧ at2_503 ≤ 3002 := e511 ▸ hW508.1 10
                  have bfk2_504 : (0 : Int) ≤ fk2_504 ∧ fk2_504 ≤ 6 := e512 ▸ hW508.1 16
                  have bop2_505 : (-2147483648 : Int) ≤ op2_505 ∧ op2_505 ≤ 2147483647 := e513 ▸ hW508.1 15
                  have bnd2_506 : (0 : Int) ≤ nd2_506 ∧ nd2_506 ≤ 6999 := e514 ▸ hW508.1 31
                  have ztk2_507 := tz_b tk2_507
                  have btk2_507 : (0 : Int) ≤ tk2_507 ∧ tk2_507 ≤ 5 := e515 ▸ hW508.1 11
                  refine .inr ⟨_, rfl, ?_⟩
                  rcases q522 with ⟨a524, a525, a526, a527, a528, a529⟩ | ⟨a530, a531, a532⟩ | ⟨a533, a534, a535⟩
                  · have _q : True := trivial
                    refine jr_st (pc' := 359) (i := 19) (m := 7000) (z := one) (y := r502) rfl (by decide) rfl (by decide) (by omega) (by omega) rfl ?_
                    have hW537 : Wk G500 (uA A501 19 (one).toNat (r502)) := Wk_a hW508 (show (-2147483648 : Int) ≤ r502 by omega) (show r502 ≤ (2147483647 : Int) by omega)
                    have hF538 := Fr_a (z := r502) (k := 19) (n := (one).toNat) hF523 (by decide)
                    obtain ⟨A536, eA536⟩ : ∃ q, q = uA A501 19 (one).toNat (r502) := ⟨_, rfl⟩
                    rw [← eA536]
                    rw [← eA536] at hW537 hF538
                    have q539 : A536 19 (one).toNat = r502 := by rw [eA536]; exact uA_eq
                    refine jx_ld (pc' := 360) (l' := L) (st' := [.ref 66]) rfl (jl_aloadn gL_0) ?_
                    refine jx_vr (pc' := 363) (as := []) (st := []) rfl rfl rfl rfl ⟨rfl, rfl, Nat.le_of_ble_eq_true rfl⟩ rfl rfl (c_endLine (dd := d) (hd := by omega) (hW := hW537)  (ln := ln) (e_ln := show G500 9 = ln from ((hF509.1 9 rfl).trans ((hF484.1 9 rfl).trans ((hF361.1 9 rfl).trans ((hF18.1 9 rfl).trans (fx_9)))))) (li := li) (e_li := show G500 3 = li from ((hF509.1 3 rfl).trans ((hF484.1 3 rfl).trans ((hF361.1 3 rfl).trans ((hF18.1 3 rfl).trans ((hFx.1 3 rfl).trans (e_li))))))) (fk := fk2_504) (e_fk := show G500 16 = fk2_504 from (e512)) (tk0 := tk2_507) (e_tk0 := show G500 11 = tk2_507 from (e515))    (p_0 := by omega)) (fun o V' hq => ?_)
                    obtain ⟨G540, A541, ln2_542, fk2_543, rfl, rfl, hW544, hF545, e546, e547, q548⟩ := hq
                    have hF549 := Fr_tr hF538 hF545 (Fr_sub (by decide)) (Fr_sub (by decide))
                    have bln2_542 : (0 : Int) ≤ ln2_542 ∧ ln2_542 ≤ 3000 := e546 ▸ hW544.1 9
                    have bfk2_543 : (0 : Int) ≤ fk2_543 ∧ fk2_543 ≤ 6 := e547 ▸ hW544.1 16
                    refine .inl ⟨rfl, ?_⟩
                    rcases q548 with ⟨a550, a551, a552, a553, a554⟩ | ⟨a555, a556⟩
                    · have _q : True := trivial
                      exfalso
                      omega
                    · have _q : True := trivial
                      refine jx_ld (pc' := 364) (l' := L) (st' := [.int (i32 (one))]) rfl (jl_iloadn gL_1) ?_
                      refine jx_rt (v := some (.int (i32 (one)))) rfl rfl rfl rfl rfl rfl ?_
                      exact ⟨_, _, _, at2_503, fk2_543, nd2_506, ln2_542, rfl, rfl, hW544, hF549, by omega, ((hF545.1 10 rfl).trans (e511)), (e547), ((hF545.1 31 rfl).trans (e514)), (e546), by omega, by omega, by omega, by omega, by omega, by first | exact Or.inl (⟨by omega, by omega, by omega⟩) | exact Or.inr ((⟨by omega, by omega, by omega⟩))⟩
                  · have _q : True := trivial
                    exfalso
                    omega
                  · have _q : True := trivial
                    exfalso
                    omega
                · have _q : True := trivial
                  exfalso
                  omega
            · have _q : True := trivial
              refine jr_st (pc' := 338) (i := 18) (m := 7000) (z := one) (y := r354) rfl (by decide) rfl (by decide) (by omega) (by omega) rfl ?_
              have hW558 : Wk G352 (uA A353 18 (one).toNat (r354)) := Wk_a hW360 (show (-2147483648 : Int) ≤ r354 by omega) (show r354 ≤ (2147483647 : Int) by omega)
              have hF559 := Fr_a (z := r354) (k := 18) (n := (one).toNat) hF375 (by decide)
              obtain ⟨A557, eA557⟩ : ∃ q, q = uA A353 18 (one).toNat (r354) := ⟨_, rfl⟩
              rw [← eA557]
              rw [← eA557] at hW558 hF559
              have q560 : A557 18 (one).toNat = r354 := by rw [eA557]; exact uA_eq
              refine jx_ld (pc' := 339) (l' := L) (st' := [.ref 66]) rfl (jl_aloadn gL_0) ?_
              refine jx_ld (pc' := 340) (l' := L) (st' := [.ref 66, .ref 66]) rfl (jl_aloadn gL_0) ?_
              refine jx_ar (pc' := 342) (st' := [.int (i32 (63)), .ref 66, .ref 66]) rfl rfl rfl rfl ?_
              have b561 : (-2147483648 : Int) ≤ G352 13 ∧ G352 13 ≤ 2147483647 := hW360.1 13
              refine jx_vr (pc' := 345) (as := [.int (i32 (63))]) (st := [.ref 66]) rfl rfl rfl rfl ⟨rfl, rfl, Nat.le_of_ble_eq_true rfl⟩ rfl rfl (c_is (dd := d) (hd := by omega) (hW := hW558) (k := 63) (tk := tk2_359) (e_tk := show G352 11 = tk2_359 from (e367)) (tn := G352 13) (e_tn := show G352 13 = G352 13 from rfl)  (h_k := by omega)  ) (fun o V' hq => ?_)
              obtain ⟨r562, rfl, rfl, b563, q564⟩ := hq
              refine .inr ⟨_, rfl, ?_⟩
              rcases q564 with ⟨rfl, a565, a566, a567⟩ | rfl
              · have _q : True := trivial
                refine jx_vr (pc' := 348) (as := [.int (i32 (1))]) (st := []) rfl rfl rfl rfl ⟨rfl, rfl, Nat.le_of_ble_eq_true rfl⟩ rfl rfl (c_need (dd := d) (hd := by omega) (hW := hW558) (g := 1) (ln := ln) (e_ln := show G352 9 = ln from ((hF361.1 9 rfl).trans ((hF18.1 9 rfl).trans (fx_9)))) (le := le) (e_le := show A557 4 (ln).toNat = le from (congrFun (((congrFun eA557 4).trans (uA_ne (by decide))).trans ((hF361.2 4 rfl).trans ((hF18.2 4 rfl).trans (((congrFun eA1 4).trans (uA_ne (by decide))).trans (hFx.2 4 rfl))))) _).trans (e_le)) (at0 := at2_355) (e_at0 := show G352 10 = at2_355 from (e363)) (fk := fk2_356) (e_fk := show G352 16 = fk2_356 from (e364)) (tk0 := tk2_359) (e_tk0 := show G352 11 = tk2_359 from (e367))  (h_g := by omega)  (p_0 := by omega)) (fun o V' hq => ?_)
                obtain ⟨G568, A569, at2_570, tk2_571, fk2_572, rfl, rfl, hW573, hF574, e575, e576, e577, p578, p579, q580⟩ := hq
                have hF581 := Fr_tr hF559 hF574 (Fr_sub (by decide)) (Fr_sub (by decide))
                have bat2_570 : (0 : Int) ≤ at2_570 ∧ at2_570 ≤ 3002 := e575 ▸ hW573.1 10
                have ztk2_571 := tz_b tk2_571
                have btk2_571 : (0 : Int) ≤ tk2_571 ∧ tk2_571 ≤ 5 := e576 ▸ hW573.1 11
                have bfk2_572 : (0 : Int) ≤ fk2_572 ∧ fk2_572 ≤ 6 := e577 ▸ hW573.1 16
                refine .inl ⟨rfl, ?_⟩
                rcases q580 with ⟨a582, a583, a584, a585⟩ | ⟨a586, a587, a588, a589⟩
                · have _q : True := trivial
                  refine jx_ld (pc' := 349) (l' := L) (st' := [.ref 66]) rfl (jl_aloadn gL_0) ?_
                  refine jr_get (pc' := 352) (i := 36) (v := .ref 86) rfl rfl (by decide) rfl rfl ?_
                  refine jx_ld (pc' := 353) (l' := L) (st' := [.int (i32 (one)), .ref 86]) rfl (jl_iloadn gL_1) ?_
                  refine jx_ld (pc' := 354) (l' := L) (st' := [.ref 66, .int (i32 (one)), .ref 86]) rfl (jl_aloadn gL_0) ?_
                  refine jx_ar (pc' := 355) (st' := [.int (i32 (0)), .ref 66, .int (i32 (one)), .ref 86]) rfl rfl rfl rfl ?_
                  refine jx_vr (pc' := 358) (as := [.int (i32 (0))]) (st := [.int (i32 (one)), .ref 86]) rfl rfl rfl rfl ⟨rfl, rfl, Nat.le_of_ble_eq_true rfl⟩ rfl rfl (c_readReference (dd := d) (hd := by omega) (hW := hW573) (ch := 0) (ln := ln) (e_ln := show G568 9 = ln from ((hF574.1 9 rfl).trans ((hF361.1 9 rfl).trans ((hF18.1 9 rfl).trans (fx_9))))) (le := le) (e_le := show A569 4 (ln).toNat = le from (congrFun ((hF574.2 4 rfl).trans (((congrFun eA557 4).trans (uA_ne (by decide))).trans ((hF361.2 4 rfl).trans ((hF18.2 4 rfl).trans (((congrFun eA1 4).trans (uA_ne (by decide))).trans (hFx.2 4 rfl)))))) _).trans (e_le)) (at0 := at2_570) (e_at0 := show G568 10 = at2_570 from (e575)) (fk := fk2_572) (e_fk := show G568 16 = fk2_572 from (e577)) (op0 := op2_357) (e_op0 := show G568 15 = op2_357 from ((hF574.1 15 rfl).trans (e365))) (nd := nd2_358) (e_nd := show G568 31 = nd2_358 from ((hF574.1 31 rfl).trans (e366))) (tk0 := tk2_571) (e_tk0 := show G568 11 = tk2_571 from (e576))  (h_ch := by omega)  (p_0 := by omega) (p_1 := by omega) (p_2 := by omega) (p_3 := by omega) (p_4 := by omega)) (fun o V' hq => ?_)
                  obtain ⟨G590, A591, r592, at2_593, fk2_594, op2_595, nd2_596, tk2_597, rfl, rfl, hW598, hF599, b600, e601, e602, e603, e604, e605, p606, p607, p608, p609, p610, p611, q612⟩ := hq
                  have hF613 := Fr_tr hF581 hF599 (Fr_sub (by decide)) (Fr_sub (by decide))
                  have bat2_593 : (0 : Int) ≤ at2_593 ∧ at2_593 ≤ 3002 := e601 ▸ hW598.1 10
                  have bfk2_594 : (0 : Int) ≤ fk2_594 ∧ fk2_594 ≤ 6 := e602 ▸ hW598.1 16
                  have bop2_595 : (-2147483648 : Int) ≤ op2_595 ∧ op2_595 ≤ 2147483647 := e603 ▸ hW598.1 15
                  have bnd2_596 : (0 : Int) ≤ nd2_596 ∧ nd2_596 ≤ 6999 := e604 ▸ hW598.1 31
                  have ztk2_597 := tz_b tk2_597
                  have btk2_597 : (0 : Int) ≤ tk2_597 ∧ tk2_597 ≤ 5 := e605 ▸ hW598.1 11
                  refine .inr ⟨_, rfl, ?_⟩
                  rcases q612 with ⟨a614, a615, a616, a617, a618, a619⟩ | ⟨a620, a621, a622⟩ | ⟨a623, a624, a625⟩
                  · have _q : True := trivial
                    refine jr_st (pc' := 359) (i := 19) (m := 7000) (z := one) (y := r592) rfl (by decide) rfl (by decide) (by omega) (by omega) rfl ?_
                    have hW627 : Wk G590 (uA A591 19 (one).toNat (r592)) := Wk_a hW598 (show (-2147483648 : Int) ≤ r592 by omega) (show r592 ≤ (2147483647 : Int) by omega)
                    have hF628 := Fr_a (z := r592) (k := 19) (n := (one).toNat) hF613 (by decide)
                    obtain ⟨A626, eA626⟩ : ∃ q, q = uA A591 19 (one).toNat (r592) := ⟨_, rfl⟩
                    rw [← eA626]
                    rw [← eA626] at hW627 hF628
                    have q629 : A626 19 (one).toNat = r592 := by rw [eA626]; exact uA_eq
                    refine jx_ld (pc' := 360) (l' := L) (st' := [.ref 66]) rfl (jl_aloadn gL_0) ?_
                    refine jx_vr (pc' := 363) (as := []) (st := []) rfl rfl rfl rfl ⟨rfl, rfl, Nat.le_of_ble_eq_true rfl⟩ rfl rfl (c_endLine (dd := d) (hd := by omega) (hW := hW627)  (ln := ln) (e_ln := show G590 9 = ln from ((hF599.1 9 rfl).trans ((hF574.1 9 rfl).trans ((hF361.1 9 rfl).trans ((hF18.1 9 rfl).trans (fx_9)))))) (li := li) (e_li := show G590 3 = li from ((hF599.1 3 rfl).trans ((hF574.1 3 rfl).trans ((hF361.1 3 rfl).trans ((hF18.1 3 rfl).trans ((hFx.1 3 rfl).trans (e_li))))))) (fk := fk2_594) (e_fk := show G590 16 = fk2_594 from (e602)) (tk0 := tk2_597) (e_tk0 := show G590 11 = tk2_597 from (e605))    (p_0 := by omega)) (fun o V' hq => ?_)
                    obtain ⟨G630, A631, ln2_632, fk2_633, rfl, rfl, hW634, hF635, e636, e637, q638⟩ := hq
                    have hF639 := Fr_tr hF628 hF635 (Fr_sub (by decide)) (Fr_sub (by decide))
                    have bln2_632 : (0 : Int) ≤ ln2_632 ∧ ln2_632 ≤ 3000 := e636 ▸ hW634.1 9
                    have bfk2_633 : (0 : Int) ≤ fk2_633 ∧ fk2_633 ≤ 6 := e637 ▸ hW634.1 16
                    refine .inl ⟨rfl, ?_⟩
                    rcases q638 with ⟨a640, a641, a642, a643, a644⟩ | ⟨a645, a646⟩
                    · have _q : True := trivial
                      exfalso
                      omega
                    · have _q : True := trivial
                      refine jx_ld (pc' := 364) (l' := L) (st' := [.int (i32 (one))]) rfl (jl_iloadn gL_1) ?_
                      refine jx_rt (v := some (.int (i32 (one)))) rfl rfl rfl rfl rfl rfl ?_
                      exact ⟨_, _, _, at2_593, fk2_633, nd2_596, ln2_632, rfl, rfl, hW634, hF639, by omega, ((hF635.1 10 rfl).trans (e601)), (e637), ((hF635.1 31 rfl).trans (e604)), (e636), by omega, by omega, by omega, by omega, by omega, by first | exact Or.inl (⟨by omega, by omega, by omega⟩) | exact Or.inr ((⟨by omega, by omega, by omega⟩))⟩
                  · have _q : True := trivial
                    exfalso
                    omega
                  · have _q : True := trivial
                    exfalso
                    omega
                · have _q : True := trivial
                  refine jx_ld (pc' := 349) (l' := L) (st' := [.ref 66]) rfl (jl_aloadn gL_0) ?_
                  refine jr_get (pc' := 352) (i := 36) (v := .ref 86) rfl rfl (by decide) rfl rfl ?_
                  refine jx_ld (pc' := 353) (l' := L) (st' := [.int (i32 (one)), .ref 86]) rfl (jl_iloadn gL_1) ?_
                  refine jx_ld (pc' := 354) (l' := L) (st' := [.ref 66, .int (i32 (one)), .ref 86]) rfl (jl_aloadn gL_0) ?_
                  refine jx_ar (pc' := 355) (st' := [.int (i32 (0)), .ref 66, .int (i32 (one)), .ref 86]) rfl rfl rfl rfl ?_
                  refine jx_vr (pc' := 358) (as := [.int (i32 (0))]) (st := [.int (i32 (one)), .ref 86]) rfl rfl rfl rfl ⟨rfl, rfl, Nat.le_of_ble_eq_true rfl⟩ rfl rfl (c_readReference (dd := d) (hd := by omega) (hW := hW573) (ch := 0) (ln := ln) (e_ln := show G568 9 = ln from ((hF574.1 9 rfl).trans ((hF361.1 9 rfl).trans ((hF18.1 9 rfl).trans (fx_9))))) (le := le) (e_le := show A569 4 (ln).toNat = le from (congrFun ((hF574.2 4 rfl).trans (((congrFun eA557 4).trans (uA_ne (by decide))).trans ((hF361.2 4 rfl).trans ((hF18.2 4 rfl).trans (((congrFun eA1 4).trans (uA_ne (by decide))).trans (hFx.2 4 rfl)))))) _).trans (e_le)) (at0 := at2_570) (e_at0 := show G568 10 = at2_570 from (e575)) (fk := fk2_572) (e_fk := show G568 16 = fk2_572 from (e577)) (op0 := op2_357) (e_op0 := show G568 15 = op2_357 from ((hF574.1 15 rfl).trans (e365))) (nd := nd2_358) (e_nd := show G568 31 = nd2_358 from ((hF574.1 31 rfl).trans (e366))) (tk0 := tk2_571) (e_tk0 := show G568 11 = tk2_571 from (e576))  (h_ch := by omega)  (p_0 := by omega) (p_1 := by omega) (p_2 := by omega) (p_3 := by omega) (p_4 := by omega)) (fun o V' hq => ?_)
                  obtain ⟨G647, A648, r649, at2_650, fk2_651, op2_652, nd2_653, tk2_654, rfl, rfl, hW655, hF656, b657, e658, e659, e660, e661, e662, p663, p664, p665, p666, p667, p668, q669⟩ := hq
                  have hF670 := Fr_tr hF581 hF656 (Fr_sub (by decide)) (Fr_sub (by decide))
                  have bat2_650 : (0 : Int) ≤ at2_650 ∧ at2_650 ≤ 3002 := e658 ▸ hW655.1 10
                  have bfk2_651 : (0 : Int) ≤ fk2_651 ∧ fk2_651 ≤ 6 := e659 ▸ hW655.1 16
                  have bop2_652 : (-2147483648 : Int) ≤ op2_652 ∧ op2_652 ≤ 2147483647 := e660 ▸ hW655.1 15
                  have bnd2_653 : (0 : Int) ≤ nd2_653 ∧ nd2_653 ≤ 6999 := e661 ▸ hW655.1 31
                  have ztk2_654 := tz_b tk2_654
                  have btk2_654 : (0 : Int) ≤ tk2_654 ∧ tk2_654 ≤ 5 := e662 ▸ hW655.1 11
                  refine .inr ⟨_, rfl, ?_⟩
                  rcases q669 with ⟨a671, a672, a673, a674, a675, a676⟩ | ⟨a677, a678, a679⟩ | ⟨a680, a681, a682⟩
                  · have _q : True := trivial
                    exfalso
                    omega
                  · have _q : True := trivial
                    refine jr_st (pc' := 359) (i := 19) (m := 7000) (z := one) (y := r649) rfl (by decide) rfl (by decide) (by omega) (by omega) rfl ?_
                    have hW684 : Wk G647 (uA A648 19 (one).toNat (r649)) := Wk_a hW655 (show (-2147483648 : Int) ≤ r649 by omega) (show r649 ≤ (2147483647 : Int) by omega)
                    have hF685 := Fr_a (z := r649) (k := 19) (n := (one).toNat) hF670 (by decide)
                    obtain ⟨A683, eA683⟩ : ∃ q, q = uA A648 19 (one).toNat (r649) := ⟨_, rfl⟩
                    rw [← eA683]
                    rw [← eA683] at hW684 hF685
                    have q686 : A683 19 (one).toNat = r649 := by rw [eA683]; exact uA_eq
                    refine jx_ld (pc' := 360) (l' := L) (st' := [.ref 66]) rfl (jl_aloadn gL_0) ?_
                    refine jx_vr (pc' := 363) (as := []) (st := []) rfl rfl rfl rfl ⟨rfl, rfl, Nat.le_of_ble_eq_true rfl⟩ rfl rfl (c_endLine (dd := d) (hd := by omega) (hW := hW684)  (ln := ln) (e_ln := show G647 9 = ln from ((hF656.1 9 rfl).trans ((hF574.1 9 rfl).trans ((hF361.1 9 rfl).trans ((hF18.1 9 rfl).trans (fx_9)))))) (li := li) (e_li := show G647 3 = li from ((hF656.1 3 rfl).trans ((hF574.1 3 rfl).trans ((hF361.1 3 rfl).trans ((hF18.1 3 rfl).trans ((hFx.1 3 rfl).trans (e_li))))))) (fk := fk2_651) (e_fk := show G647 16 = fk2_651 from (e659)) (tk0 := tk2_654) (e_tk0 := show G647 11 = tk2_654 from (e662))    (p_0 := by omega)) (fun o V' hq => ?_)
                    obtain ⟨G687, A688, ln2_689, fk2_690, rfl, rfl, hW691, hF692, e693, e694, q695⟩ := hq
                    have hF696 := Fr_tr hF685 hF692 (Fr_sub (by decide)) (Fr_sub (by decide))
                    have bln2_689 : (0 : Int) ≤ ln2_689 ∧ ln2_689 ≤ 3000 := e693 ▸ hW691.1 9
                    have bfk2_690 : (0 : Int) ≤ fk2_690 ∧ fk2_690 ≤ 6 := e694 ▸ hW691.1 16
                    refine .inl ⟨rfl, ?_⟩
                    rcases q695 with ⟨a697, a698, a699, a700, a701⟩ | ⟨a702, a703⟩
                    · have _q : True := trivial
                      exfalso
                      omega
                    · have _q : True := trivial
                      refine jx_ld (pc' := 364) (l' := L) (st' := [.int (i32 (one))]) rfl (jl_iloadn gL_1) ?_
                      refine jx_rt (v := some (.int (i32 (one)))) rfl rfl rfl rfl rfl rfl ?_
                      exact ⟨_, _, _, at2_650, fk2_690, nd2_653, ln2_689, rfl, rfl, hW691, hF696, by omega, ((hF692.1 10 rfl).trans (e658)), (e694), ((hF692.1 31 rfl).trans (e661)), (e693), by omega, by omega, by omega, by omega, by omega, by first | exact Or.inl (⟨by omega, by omega, by omega⟩) | exact Or.inr ((⟨by omega, by omega, by omega⟩))⟩
                  · have _q : True := trivial
                    refine jr_st (pc' := 359) (i := 19) (m := 7000) (z := one) (y := r649) rfl (by decide) rfl (by decide) (by omega) (by omega) rfl ?_
                    have hW705 : Wk G647 (uA A648 19 (one).toNat (r649)) := Wk_a hW655 (show (-2147483648 : Int) ≤ r649 by omega) (show r649 ≤ (2147483647 : Int) by omega)
                    have hF706 := Fr_a (z := r649) (k := 19) (n := (one).toNat) hF670 (by decide)
                    obtain ⟨A704, eA704⟩ : ∃ q, q = uA A648 19 (one).toNat (r649) := ⟨_, rfl⟩
                    rw [← eA704]
                    rw [← eA704] at hW705 hF706
                    have q707 : A704 19 (one).toNat = r649 := by rw [eA704]; exact uA_eq
                    refine jx_ld (pc' := 360) (l' := L) (st' := [.ref 66]) rfl (jl_aloadn gL_0) ?_
                    refine jx_vr (pc' := 363) (as := []) (st := []) rfl rfl rfl rfl ⟨rfl, rfl, Nat.le_of_ble_eq_true rfl⟩ rfl rfl (c_endLine (dd := d) (hd := by omega) (hW := hW705)  (ln := ln) (e_ln := show G647 9 = ln from ((hF656.1 9 rfl).trans ((hF574.1 9 rfl).trans ((hF361.1 9 rfl).trans ((hF18.1 9 rfl).trans (fx_9)))))) (li := li) (e_li := show G647 3 = li from ((hF656.1 3 rfl).trans ((hF574.1 3 rfl).trans ((hF361.1 3 rfl).trans ((hF18.1 3 rfl).trans ((hFx.1 3 rfl).trans (e_li))))))) (fk := fk2_651) (e_fk := show G647 16 = fk2_651 from (e659)) (tk0 := tk2_654) (e_tk0 := show G647 11 = tk2_654 from (e662))    (p_0 := by omega)) (fun o V' hq => ?_)
                    obtain ⟨G708, A709, ln2_710, fk2_711, rfl, rfl, hW712, hF713, e714, e715, q716⟩ := hq
                    have hF717 := Fr_tr hF706 hF713 (Fr_sub (by decide)) (Fr_sub (by decide))
                    have bln2_710 : (0 : Int) ≤ ln2_710 ∧ ln2_710 ≤ 3000 := e714 ▸ hW712.1 9
                    have bfk2_711 : (0 : Int) ≤ fk2_711 ∧ fk2_711 ≤ 6 := e715 ▸ hW712.1 16
                    refine .inl ⟨rfl, ?_⟩
                    rcases q716 with ⟨a718, a719, a720, a721, a722⟩ | ⟨a723, a724⟩
                    · have _q : True := trivial
                      refine jx_ld (pc' := 364) (l' := L) (st' := [.int (i32 (one))]) rfl (jl_iloadn gL_1) ?_
                      refine jx_rt (v := some (.int (i32 (one)))) rfl rfl rfl rfl rfl rfl ?_
                      exact ⟨_, _, _, at2_650, fk2_711, nd2_653, ln2_710, rfl, rfl, hW712, hF717, by omega, ((hF713.1 10 rfl).trans (e658)), (e715), ((hF713.1 31 rfl).trans (e661)), (e714), by omega, by omega, by omega, by omega, by omega, by first | exact Or.inl (⟨by omega, by omega, by omega⟩) | exact Or.inr ((⟨by omega, by omega, by omega⟩))⟩
                    · have _q : True := trivial
                      refine jx_ld (pc' := 364) (l' := L) (st' := [.int (i32 (one))]) rfl (jl_iloadn gL_1) ?_
                      refine jx_rt (v := some (.int (i32 (one)))) rfl rfl rfl rfl rfl rfl ?_
                      exact ⟨_, _, _, at2_650, fk2_711, nd2_653, ln2_710, rfl, rfl, hW712, hF717, by omega, ((hF713.1 10 rfl).trans (e658)), (e715), ((hF713.1 31 rfl).trans (e661)), (e714), by omega, by omega, by omega, by omega, by omega, by first | exact Or.inl (⟨by omega, by omega, by omega⟩) | exact Or.inr ((⟨by omega, by omega, by omega⟩))⟩
              · have _q : True := trivial
                refine jx_vr (pc' := 348) (as := [.int (i32 (0))]) (st := []) rfl rfl rfl rfl ⟨rfl, rfl, Nat.le_of_ble_eq_true rfl⟩ rfl rfl (c_need (dd := d) (hd := by omega) (hW := hW558) (g := 0) (ln := ln) (e_ln := show G352 9 = ln from ((hF361.1 9 rfl).trans ((hF18.1 9 rfl).trans (fx_9)))) (le := le) (e_le := show A557 4 (ln).toNat = le from (congrFun (((congrFun eA557 4).trans (uA_ne (by decide))).trans ((hF361.2 4 rfl).trans ((hF18.2 4 rfl).trans (((congrFun eA1 4).trans (uA_ne (by decide))).trans (hFx.2 4 rfl))))) _).trans (e_le)) (at0 := at2_355) (e_at0 := show G352 10 = at2_355 from (e363)) (fk := fk2_356) (e_fk := show G352 16 = fk2_356 from (e364)) (tk0 := tk2_359) (e_tk0 := show G352 11 = tk2_359 from (e367))  (h_g := by omega)  (p_0 := by omega)) (fun o V' hq => ?_)
                obtain ⟨G725, A726, at2_727, tk2_728, fk2_729, rfl, rfl, hW730, hF731, e732, e733, e734, p735, p736, q737⟩ := hq
                have hF738 := Fr_tr hF559 hF731 (Fr_sub (by decide)) (Fr_sub (by decide))
                have bat2_727 : (0 : Int) ≤ at2_727 ∧ at2_727 ≤ 3002 := e732 ▸ hW730.1 10
                have ztk2_728 := tz_b tk2_728
                have btk2_728 : (0 : Int) ≤ tk2_728 ∧ tk2_728 ≤ 5 := e733 ▸ hW730.1 11
                have bfk2_729 : (0 : Int) ≤ fk2_729 ∧ fk2_729 ≤ 6 := e734 ▸ hW730.1 16
                refine .inl ⟨rfl, ?_⟩
                rcases q737 with ⟨a739, a740, a741, a742⟩ | ⟨a743, a744, a745, a746⟩
                · have _q : True := trivial
                  refine jx_ld (pc' := 349) (l' := L) (st' := [.ref 66]) rfl (jl_aloadn gL_0) ?_
                  refine jr_get (pc' := 352) (i := 36) (v := .ref 86) rfl rfl (by decide) rfl rfl ?_
                  refine jx_ld (pc' := 353) (l' := L) (st' := [.int (i32 (one)), .ref 86]) rfl (jl_iloadn gL_1) ?_
                  refine jx_ld (pc' := 354) (l' := L) (st' := [.ref 66, .int (i32 (one)), .ref 86]) rfl (jl_aloadn gL_0) ?_
                  refine jx_ar (pc' := 355) (st' := [.int (i32 (0)), .ref 66, .int (i32 (one)), .ref 86]) rfl rfl rfl rfl ?_
                  refine jx_vr (pc' := 358) (as := [.int (i32 (0))]) (st := [.int (i32 (one)), .ref 86]) rfl rfl rfl rfl ⟨rfl, rfl, Nat.le_of_ble_eq_true rfl⟩ rfl rfl (c_readReference (dd := d) (hd := by omega) (hW := hW730) (ch := 0) (ln := ln) (e_ln := show G725 9 = ln from ((hF731.1 9 rfl).trans ((hF361.1 9 rfl).trans ((hF18.1 9 rfl).trans (fx_9))))) (le := le) (e_le := show A726 4 (ln).toNat = le from (congrFun ((hF731.2 4 rfl).trans (((congrFun eA557 4).trans (uA_ne (by decide))).trans ((hF361.2 4 rfl).trans ((hF18.2 4 rfl).trans (((congrFun eA1 4).trans (uA_ne (by decide))).trans (hFx.2 4 rfl)))))) _).trans (e_le)) (at0 := at2_727) (e_at0 := show G725 10 = at2_727 from (e732)) (fk := fk2_729) (e_fk := show G725 16 = fk2_729 from (e734)) (op0 := op2_357) (e_op0 := show G725 15 = op2_357 from ((hF731.1 15 rfl).trans (e365))) (nd := nd2_358) (e_nd := show G725 31 = nd2_358 from ((hF731.1 31 rfl).trans (e366))) (tk0 := tk2_728) (e_tk0 := show G725 11 = tk2_728 from (e733))  (h_ch := by omega)  (p_0 := by omega) (p_1 := by omega) (p_2 := by omega) (p_3 := by omega) (p_4 := by omega)) (fun o V' hq => ?_)
                  obtain ⟨G747, A748, r749, at2_750, fk2_751, op2_752, nd2_753, tk2_754, rfl, rfl, hW755, hF756, b757, e758, e759, e760, e761, e762, p763, p764, p765, p766, p767, p768, q769⟩ := hq
                  have hF770 := Fr_tr hF738 hF756 (Fr_sub (by decide)) (Fr_sub (by decide))
                  have bat2_750 : (0 : Int) ≤ at2_750 ∧ at2_750 ≤ 3002 := e758 ▸ hW755.1 10
                  have bfk2_751 : (0 : Int) ≤ fk2_751 ∧ fk2_751 ≤ 6 := e759 ▸ hW755.1 16
                  have bop2_752 : (-2147483648 : Int) ≤ op2_752 ∧ op2_752 ≤ 2147483647 := e760 ▸ hW755.1 15
                  have bnd2_753 : (0 : Int) ≤ nd2_753 ∧ nd2_753 ≤ 6999 := e761 ▸ hW755.1 31
                  have ztk2_754 := tz_b tk2_754
                  have btk2_754 : (0 : Int) ≤ tk2_754 ∧ tk2_754 ≤ 5 := e762 ▸ hW755.1 11
                  refine .inr ⟨_, rfl, ?_⟩
                  rcases q769 with ⟨a771, a772, a773, a774, a775, a776⟩ | ⟨a777, a778, a779⟩ | ⟨a780, a781, a782⟩
                  · have _q : True := trivial
                    refine jr_st (pc' := 359) (i := 19) (m := 7000) (z := one) (y := r749) rfl (by decide) rfl (by decide) (by omega) (by omega) rfl ?_
                    have hW784 : Wk G747 (uA A748 19 (one).toNat (r749)) := Wk_a hW755 (show (-2147483648 : Int) ≤ r749 by omega) (show r749 ≤ (2147483647 : Int) by omega)
                    have hF785 := Fr_a (z := r749) (k := 19) (n := (one).toNat) hF770 (by decide)
                    obtain ⟨A783, eA783⟩ : ∃ q, q = uA A748 19 (one).toNat (r749) := ⟨_, rfl⟩
                    rw [← eA783]
                    rw [← eA783] at hW784 hF785
                    have q786 : A783 19 (one).toNat = r749 := by rw [eA783]; exact uA_eq
                    refine jx_ld (pc' := 360) (l' := L) (st' := [.ref 66]) rfl (jl_aloadn gL_0) ?_
                    refine jx_vr (pc' := 363) (as := []) (st := []) rfl rfl rfl rfl ⟨rfl, rfl, Nat.le_of_ble_eq_true rfl⟩ rfl rfl (c_endLine (dd := d) (hd := by omega) (hW := hW784)  (ln := ln) (e_ln := show G747 9 = ln from ((hF756.1 9 rfl).trans ((hF731.1 9 rfl).trans ((hF361.1 9 rfl).trans ((hF18.1 9 rfl).trans (fx_9)))))) (li := li) (e_li := show G747 3 = li from ((hF756.1 3 rfl).trans ((hF731.1 3 rfl).trans ((hF361.1 3 rfl).trans ((hF18.1 3 rfl).trans ((hFx.1 3 rfl).trans (e_li))))))) (fk := fk2_751) (e_fk := show G747 16 = fk2_751 from (e759)) (tk0 := tk2_754) (e_tk0 := show G747 11 = tk2_754 from (e762))    (p_0 := by omega)) (fun o V' hq => ?_)
                    obtain ⟨G787, A788, ln2_789, fk2_790, rfl, rfl, hW791, hF792, e793, e794, q795⟩ := hq
                    have hF796 := Fr_tr hF785 hF792 (Fr_sub (by decide)) (Fr_sub (by decide))
                    have bln2_789 : (0 : Int) ≤ ln2_789 ∧ ln2_789 ≤ 3000 := e793 ▸ hW791.1 9
                    have bfk2_790 : (0 : Int) ≤ fk2_790 ∧ fk2_790 ≤ 6 := e794 ▸ hW791.1 16
                    refine .inl ⟨rfl, ?_⟩
                    rcases q795 with ⟨a797, a798, a799, a800, a801⟩ | ⟨a802, a803⟩
                    · have _q : True := trivial
                      exfalso
                      omega
                    · have _q : True := trivial
                      refine jx_ld (pc' := 364) (l' := L) (st' := [.int (i32 (one))]) rfl (jl_iloadn gL_1) ?_
                      refine jx_rt (v := some (.int (i32 (one)))) rfl rfl rfl rfl rfl rfl ?_
                      exact ⟨_, _, _, at2_750, fk2_790, nd2_753, ln2_789, rfl, rfl, hW791, hF796, by omega, ((hF792.1 10 rfl).trans (e758)), (e794), ((hF792.1 31 rfl).trans (e761)), (e793), by omega, by omega, by omega, by omega, by omega, by first | exact Or.inl (⟨by omega, by omega, by omega⟩) | exact Or.inr ((⟨by omega, by omega, by omega⟩))⟩
                  · have _q : True := trivial
                    exfalso
                    omega
                  · have _q : True := trivial
                    exfalso
                    omega
                · have _q : True := trivial
                  exfalso
                  omega
          · have _q := h351
            exact absurd h351 (by omega)
    · have _q : True := trivial
      refine jx_vr (pc' := 310) (as := [.int (i32 (0))]) (st := []) rfl rfl rfl rfl ⟨rfl, rfl, Nat.le_of_ble_eq_true rfl⟩ rfl rfl (c_need (dd := d) (hd := by omega) (hW := hW2) (g := 0) (ln := ln) (e_ln := show Gx 9 = ln from (fx_9)) (le := le) (e_le := show A1 4 (ln).toNat = le from (congrFun (((congrFun eA1 4).trans (uA_ne (by decide))).trans (hFx.2 4 rfl)) _).trans (e_le)) (at0 := at1) (e_at0 := show Gx 10 = at1 from (ex_at1)) (fk := fk1) (e_fk := show Gx 16 = fk1 from (ex_fk1)) (tk0 := tk1) (e_tk0 := show Gx 11 = tk1 from (ex_tk1))  (h_g := by omega)  (p_0 := by omega)) (fun o V' hq => ?_)
      obtain ⟨G804, A805, at2_806, tk2_807, fk2_808, rfl, rfl, hW809, hF810, e811, e812, e813, p814, p815, q816⟩ := hq
      have hF817 := Fr_tr hF3 hF810 (Fr_sub (by decide)) (Fr_sub (by decide))
      have bat2_806 : (0 : Int) ≤ at2_806 ∧ at2_806 ≤ 3002 := e811 ▸ hW809.1 10
      have ztk2_807 := tz_b tk2_807
      have btk2_807 : (0 : Int) ≤ tk2_807 ∧ tk2_807 ≤ 5 := e812 ▸ hW809.1 11
      have bfk2_808 : (0 : Int) ≤ fk2_808 ∧ fk2_808 ≤ 6 := e813 ▸ hW809.1 16
      refine .inl ⟨rfl, ?_⟩
      rcases q816 with ⟨a818, a819, a820, a821⟩ | ⟨a822, a823, a824, a825⟩
      · have _q : True := trivial
        refine jx_ld (pc' := 311) (l' := L) (st' := [.ref 66]) rfl (jl_aloadn gL_0) ?_
        refine jx_ar (pc' := 313) (st' := [.int (i32 (7)), .ref 66]) rfl rfl rfl rfl ?_
        have b826 : (-2147483648 : Int) ≤ G804 13 ∧ G804 13 ≤ 2147483647 := hW809.1 13
        refine jx_vr (pc' := 316) (as := [.int (i32 (7))]) (st := []) rfl rfl rfl rfl ⟨rfl, rfl, Nat.le_of_ble_eq_true rfl⟩ rfl rfl (c_isKey (dd := d) (hd := by omega) (hW := hW809) (k := 7) (tk := tk2_807) (e_tk := show G804 11 = tk2_807 from (e812)) (tn := G804 13) (e_tn := show G804 13 = G804 13 from rfl)  (h_k := by omega)  ) (fun o V' hq => ?_)
        obtain ⟨r827, rfl, rfl, b828, q829⟩ := hq
        refine .inr ⟨_, rfl, ?_⟩
        rcases q829 with ⟨rfl, a830, a831, a832⟩ | rfl
        · have _q : True := trivial
          refine jx_if_eq (pc' := 319) (tg := 327) rfl rfl rfl (by omega) (by omega) (fun h833 => ?_) (fun h833 => ?_)
          · have _q := h833
            exact absurd h833 (by omega)
          · have _q := h833
            refine jx_ld (pc' := 320) (l' := L) (st' := [.ref 66]) rfl (jl_aloadn gL_0) ?_
            refine jx_ar (pc' := 321) (st' := [.int (i32 (1)), .ref 66]) rfl rfl rfl rfl ?_
            refine jx_vr (pc' := 324) (as := [.int (i32 (1))]) (st := []) rfl rfl rfl rfl ⟨rfl, rfl, Nat.le_of_ble_eq_true rfl⟩ rfl rfl (c_need (dd := d) (hd := by omega) (hW := hW809) (g := 1) (ln := ln) (e_ln := show G804 9 = ln from ((hF810.1 9 rfl).trans (fx_9))) (le := le) (e_le := show A805 4 (ln).toNat = le from (congrFun ((hF810.2 4 rfl).trans (((congrFun eA1 4).trans (uA_ne (by decide))).trans (hFx.2 4 rfl))) _).trans (e_le)) (at0 := at2_806) (e_at0 := show G804 10 = at2_806 from (e811)) (fk := fk2_808) (e_fk := show G804 16 = fk2_808 from (e813)) (tk0 := tk2_807) (e_tk0 := show G804 11 = tk2_807 from (e812))  (h_g := by omega)  (p_0 := by omega)) (fun o V' hq => ?_)
            obtain ⟨G834, A835, at2_836, tk2_837, fk2_838, rfl, rfl, hW839, hF840, e841, e842, e843, p844, p845, q846⟩ := hq
            have hF847 := Fr_tr hF817 hF840 (Fr_sub (by decide)) (Fr_sub (by decide))
            have bat2_836 : (0 : Int) ≤ at2_836 ∧ at2_836 ≤ 3002 := e841 ▸ hW839.1 10
            have ztk2_837 := tz_b tk2_837
            have btk2_837 : (0 : Int) ≤ tk2_837 ∧ tk2_837 ≤ 5 := e842 ▸ hW839.1 11
            have bfk2_838 : (0 : Int) ≤ fk2_838 ∧ fk2_838 ≤ 6 := e843 ▸ hW839.1 16
            refine .inl ⟨rfl, ?_⟩
            rcases q846 with ⟨a848, a849, a850, a851⟩ | ⟨a852, a853, a854, a855⟩
            · have _q : True := trivial
              refine jx_go (tg := 359) rfl rfl ?_
              refine jx_ld (pc' := 360) (l' := L) (st' := [.ref 66]) rfl (jl_aloadn gL_0) ?_
              refine jx_vr (pc' := 363) (as := []) (st := []) rfl rfl rfl rfl ⟨rfl, rfl, Nat.le_of_ble_eq_true rfl⟩ rfl rfl (c_endLine (dd := d) (hd := by omega) (hW := hW839)  (ln := ln) (e_ln := show G834 9 = ln from ((hF840.1 9 rfl).trans ((hF810.1 9 rfl).trans (fx_9)))) (li := li) (e_li := show G834 3 = li from ((hF840.1 3 rfl).trans ((hF810.1 3 rfl).trans ((hFx.1 3 rfl).trans (e_li))))) (fk := fk2_838) (e_fk := show G834 16 = fk2_838 from (e843)) (tk0 := tk2_837) (e_tk0 := show G834 11 = tk2_837 from (e842))    (p_0 := by omega)) (fun o V' hq => ?_)
              obtain ⟨G856, A857, ln2_858, fk2_859, rfl, rfl, hW860, hF861, e862, e863, q864⟩ := hq
              have hF865 := Fr_tr hF847 hF861 (Fr_sub (by decide)) (Fr_sub (by decide))
              have bln2_858 : (0 : Int) ≤ ln2_858 ∧ ln2_858 ≤ 3000 := e862 ▸ hW860.1 9
              have bfk2_859 : (0 : Int) ≤ fk2_859 ∧ fk2_859 ≤ 6 := e863 ▸ hW860.1 16
              refine .inl ⟨rfl, ?_⟩
              rcases q864 with ⟨a866, a867, a868, a869, a870⟩ | ⟨a871, a872⟩
              · have _q : True := trivial
                exfalso
                omega
              · have _q : True := trivial
                refine jx_ld (pc' := 364) (l' := L) (st' := [.int (i32 (one))]) rfl (jl_iloadn gL_1) ?_
                refine jx_rt (v := some (.int (i32 (one)))) rfl rfl rfl rfl rfl rfl ?_
                exact ⟨_, _, _, at2_836, fk2_859, nd1, ln2_858, rfl, rfl, hW860, hF865, by omega, ((hF861.1 10 rfl).trans (e841)), (e863), ((hF861.1 31 rfl).trans ((hF840.1 31 rfl).trans ((hF810.1 31 rfl).trans (ex_nd1)))), (e862), by omega, by omega, by omega, by omega, by omega, by first | exact Or.inl (⟨by omega, by omega, by omega⟩) | exact Or.inr ((⟨by omega, by omega, by omega⟩))⟩
            · have _q : True := trivial
              exfalso
              omega
        · have _q : True := trivial
          refine jx_if_eq (pc' := 319) (tg := 327) rfl rfl rfl (by omega) (by omega) (fun h873 => ?_) (fun h873 => ?_)
          · have _q := h873
            refine jx_ld (pc' := 328) (l' := L) (st' := [.ref 66]) rfl (jl_aloadn gL_0) ?_
            refine jr_get (pc' := 331) (i := 35) (v := .ref 85) rfl rfl (by decide) rfl rfl ?_
            refine jx_ld (pc' := 332) (l' := L) (st' := [.int (i32 (one)), .ref 85]) rfl (jl_iloadn gL_1) ?_
            refine jx_ld (pc' := 333) (l' := L) (st' := [.ref 66, .int (i32 (one)), .ref 85]) rfl (jl_aloadn gL_0) ?_
            refine jx_ar (pc' := 334) (st' := [.int (i32 (1)), .ref 66, .int (i32 (one)), .ref 85]) rfl rfl rfl rfl ?_
            refine jx_vr (pc' := 337) (as := [.int (i32 (1))]) (st := [.int (i32 (one)), .ref 85]) rfl rfl rfl rfl ⟨rfl, rfl, Nat.le_of_ble_eq_true rfl⟩ rfl rfl (c_readReference (dd := d) (hd := by omega) (hW := hW809) (ch := 1) (ln := ln) (e_ln := show G804 9 = ln from ((hF810.1 9 rfl).trans (fx_9))) (le := le) (e_le := show A805 4 (ln).toNat = le from (congrFun ((hF810.2 4 rfl).trans (((congrFun eA1 4).trans (uA_ne (by decide))).trans (hFx.2 4 rfl))) _).trans (e_le)) (at0 := at2_806) (e_at0 := show G804 10 = at2_806 from (e811)) (fk := fk2_808) (e_fk := show G804 16 = fk2_808 from (e813)) (op0 := op1) (e_op0 := show G804 15 = op1 from ((hF810.1 15 rfl).trans (ex_op1))) (nd := nd1) (e_nd := show G804 31 = nd1 from ((hF810.1 31 rfl).trans (ex_nd1))) (tk0 := tk2_807) (e_tk0 := show G804 11 = tk2_807 from (e812))  (h_ch := by omega)  (p_0 := by omega) (p_1 := by omega) (p_2 := by omega) (p_3 := by omega) (p_4 := by omega)) (fun o V' hq => ?_)
            obtain ⟨G874, A875, r876, at2_877, fk2_878, op2_879, nd2_880, tk2_881, rfl, rfl, hW882, hF883, b884, e885, e886, e887, e888, e889, p890, p891, p892, p893, p894, p895, q896⟩ := hq
            have hF897 := Fr_tr hF817 hF883 (Fr_sub (by decide)) (Fr_sub (by decide))
            have bat2_877 : (0 : Int) ≤ at2_877 ∧ at2_877 ≤ 3002 := e885 ▸ hW882.1 10
            have bfk2_878 : (0 : Int) ≤ fk2_878 ∧ fk2_878 ≤ 6 := e886 ▸ hW882.1 16
            have bop2_879 : (-2147483648 : Int) ≤ op2_879 ∧ op2_879 ≤ 2147483647 := e887 ▸ hW882.1 15
            have bnd2_880 : (0 : Int) ≤ nd2_880 ∧ nd2_880 ≤ 6999 := e888 ▸ hW882.1 31
            have ztk2_881 := tz_b tk2_881
            have btk2_881 : (0 : Int) ≤ tk2_881 ∧ tk2_881 ≤ 5 := e889 ▸ hW882.1 11
            refine .inr ⟨_, rfl, ?_⟩
            rcases q896 with ⟨a898, a899, a900, a901, a902, a903⟩ | ⟨a904, a905, a906⟩ | ⟨a907, a908, a909⟩
            · have _q : True := trivial
              refine jr_st (pc' := 338) (i := 18) (m := 7000) (z := one) (y := r876) rfl (by decide) rfl (by decide) (by omega) (by omega) rfl ?_
              have hW911 : Wk G874 (uA A875 18 (one).toNat (r876)) := Wk_a hW882 (show (-2147483648 : Int) ≤ r876 by omega) (show r876 ≤ (2147483647 : Int) by omega)
              have hF912 := Fr_a (z := r876) (k := 18) (n := (one).toNat) hF897 (by decide)
              obtain ⟨A910, eA910⟩ : ∃ q, q = uA A875 18 (one).toNat (r876) := ⟨_, rfl⟩
              rw [← eA910]
              rw [← eA910] at hW911 hF912
              have q913 : A910 18 (one).toNat = r876 := by rw [eA910]; exact uA_eq
              refine jx_ld (pc' := 339) (l' := L) (st' := [.ref 66]) rfl (jl_aloadn gL_0) ?_
              refine jx_ld (pc' := 340) (l' := L) (st' := [.ref 66, .ref 66]) rfl (jl_aloadn gL_0) ?_
              refine jx_ar (pc' := 342) (st' := [.int (i32 (63)), .ref 66, .ref 66]) rfl rfl rfl rfl ?_
              have b914 : (-2147483648 : Int) ≤ G874 13 ∧ G874 13 ≤ 2147483647 := hW882.1 13
              refine jx_vr (pc' := 345) (as := [.int (i32 (63))]) (st := [.ref 66]) rfl rfl rfl rfl ⟨rfl, rfl, Nat.le_of_ble_eq_true rfl⟩ rfl rfl (c_is (dd := d) (hd := by omega) (hW := hW911) (k := 63) (tk := tk2_881) (e_tk := show G874 11 = tk2_881 from (e889)) (tn := G874 13) (e_tn := show G874 13 = G874 13 from rfl)  (h_k := by omega)  ) (fun o V' hq => ?_)
              obtain ⟨r915, rfl, rfl, b916, q917⟩ := hq
              refine .inr ⟨_, rfl, ?_⟩
              rcases q917 with ⟨rfl, a918, a919, a920⟩ | rfl
              · have _q : True := trivial
                refine jx_vr (pc' := 348) (as := [.int (i32 (1))]) (st := []) rfl rfl rfl rfl ⟨rfl, rfl, Nat.le_of_ble_eq_true rfl⟩ rfl rfl (c_need (dd := d) (hd := by omega) (hW := hW911) (g := 1) (ln := ln) (e_ln := show G874 9 = ln from ((hF883.1 9 rfl).trans ((hF810.1 9 rfl).trans (fx_9)))) (le := le) (e_le := show A910 4 (ln).toNat = le from (congrFun (((congrFun eA910 4).trans (uA_ne (by decide))).trans ((hF883.2 4 rfl).trans ((hF810.2 4 rfl).trans (((congrFun eA1 4).trans (uA_ne (by decide))).trans (hFx.2 4 rfl))))) _).trans (e_le)) (at0 := at2_877) (e_at0 := show G874 10 = at2_877 from (e885)) (fk := fk2_878) (e_fk := show G874 16 = fk2_878 from (e886)) (tk0 := tk2_881) (e_tk0 := show G874 11 = tk2_881 from (e889))  (h_g := by omega)  (p_0 := by omega)) (fun o V' hq => ?_)
                obtain ⟨G921, A922, at2_923, tk2_924, fk2_925, rfl, rfl, hW926, hF927, e928, e929, e930, p931, p932, q933⟩ := hq
                have hF934 := Fr_tr hF912 hF927 (Fr_sub (by decide)) (Fr_sub (by decide))
                have bat2_923 : (0 : Int) ≤ at2_923 ∧ at2_923 ≤ 3002 := e928 ▸ hW926.1 10
                have ztk2_924 := tz_b tk2_924
                have btk2_924 : (0 : Int) ≤ tk2_924 ∧ tk2_924 ≤ 5 := e929 ▸ hW926.1 11
                have bfk2_925 : (0 : Int) ≤ fk2_925 ∧ fk2_925 ≤ 6 := e930 ▸ hW926.1 16
                refine .inl ⟨rfl, ?_⟩
                rcases q933 with ⟨a935, a936, a937, a938⟩ | ⟨a939, a940, a941, a942⟩
                · have _q : True := trivial
                  refine jx_ld (pc' := 349) (l' := L) (st' := [.ref 66]) rfl (jl_aloadn gL_0) ?_
                  refine jr_get (pc' := 352) (i := 36) (v := .ref 86) rfl rfl (by decide) rfl rfl ?_
                  refine jx_ld (pc' := 353) (l' := L) (st' := [.int (i32 (one)), .ref 86]) rfl (jl_iloadn gL_1) ?_
                  refine jx_ld (pc' := 354) (l' := L) (st' := [.ref 66, .int (i32 (one)), .ref 86]) rfl (jl_aloadn gL_0) ?_
                  refine jx_ar (pc' := 355) (st' := [.int (i32 (0)), .ref 66, .int (i32 (one)), .ref 86]) rfl rfl rfl rfl ?_
                  refine jx_vr (pc' := 358) (as := [.int (i32 (0))]) (st := [.int (i32 (one)), .ref 86]) rfl rfl rfl rfl ⟨rfl, rfl, Nat.le_of_ble_eq_true rfl⟩ rfl rfl (c_readReference (dd := d) (hd := by omega) (hW := hW926) (ch := 0) (ln := ln) (e_ln := show G921 9 = ln from ((hF927.1 9 rfl).trans ((hF883.1 9 rfl).trans ((hF810.1 9 rfl).trans (fx_9))))) (le := le) (e_le := show A922 4 (ln).toNat = le from (congrFun ((hF927.2 4 rfl).trans (((congrFun eA910 4).trans (uA_ne (by decide))).trans ((hF883.2 4 rfl).trans ((hF810.2 4 rfl).trans (((congrFun eA1 4).trans (uA_ne (by decide))).trans (hFx.2 4 rfl)))))) _).trans (e_le)) (at0 := at2_923) (e_at0 := show G921 10 = at2_923 from (e928)) (fk := fk2_925) (e_fk := show G921 16 = fk2_925 from (e930)) (op0 := op2_879) (e_op0 := show G921 15 = op2_879 from ((hF927.1 15 rfl).trans (e887))) (nd := nd2_880) (e_nd := show G921 31 = nd2_880 from ((hF927.1 31 rfl).trans (e888))) (tk0 := tk2_924) (e_tk0 := show G921 11 = tk2_924 from (e929))  (h_ch := by omega)  (p_0 := by omega) (p_1 := by omega) (p_2 := by omega) (p_3 := by omega) (p_4 := by omega)) (fun o V' hq => ?_)
                  obtain ⟨G943, A944, r945, at2_946, fk2_947, op2_948, nd2_949, tk2_950, rfl, rfl, hW951, hF952, b953, e954, e955, e956, e957, e958, p959, p960, p961, p962, p963, p964, q965⟩ := hq
                  have hF966 := Fr_tr hF934 hF952 (Fr_sub (by decide)) (Fr_sub (by decide))
                  have bat2_946 : (0 : Int) ≤ at2_946 ∧ at2_946 ≤ 3002 := e954 ▸ hW951.1 10
                  have bfk2_947 : (0 : Int) ≤ fk2_947 ∧ fk2_947 ≤ 6 := e955 ▸ hW951.1 16
                  have bop2_948 : (-2147483648 : Int) ≤ op2_948 ∧ op2_948 ≤ 2147483647 := e956 ▸ hW951.1 15
                  have bnd2_949 : (0 : Int) ≤ nd2_949 ∧ nd2_949 ≤ 6999 := e957 ▸ hW951.1 31
                  have ztk2_950 := tz_b tk2_950
                  have btk2_950 : (0 : Int) ≤ tk2_950 ∧ tk2_950 ≤ 5 := e958 ▸ hW951.1 11
                  refine .inr ⟨_, rfl, ?_⟩
                  rcases q965 with ⟨a967, a968, a969, a970, a971, a972⟩ | ⟨a973, a974, a975⟩ | ⟨a976, a977, a978⟩
                  · have _q : True := trivial
                    refine jr_st (pc' := 359) (i := 19) (m := 7000) (z := one) (y := r945) rfl (by decide) rfl (by decide) (by omega) (by omega) rfl ?_
                    have hW980 : Wk G943 (uA A944 19 (one).toNat (r945)) := Wk_a hW951 (show (-2147483648 : Int) ≤ r945 by omega) (show r945 ≤ (2147483647 : Int) by omega)
                    have hF981 := Fr_a (z := r945) (k := 19) (n := (one).toNat) hF966 (by decide)
                    obtain ⟨A979, eA979⟩ : ∃ q, q = uA A944 19 (one).toNat (r945) := ⟨_, rfl⟩
                    rw [← eA979]
                    rw [← eA979] at hW980 hF981
                    have q982 : A979 19 (one).toNat = r945 := by rw [eA979]; exact uA_eq
                    refine jx_ld (pc' := 360) (l' := L) (st' := [.ref 66]) rfl (jl_aloadn gL_0) ?_
                    refine jx_vr (pc' := 363) (as := []) (st := []) rfl rfl rfl rfl ⟨rfl, rfl, Nat.le_of_ble_eq_true rfl⟩ rfl rfl (c_endLine (dd := d) (hd := by omega) (hW := hW980)  (ln := ln) (e_ln := show G943 9 = ln from ((hF952.1 9 rfl).trans ((hF927.1 9 rfl).trans ((hF883.1 9 rfl).trans ((hF810.1 9 rfl).trans (fx_9)))))) (li := li) (e_li := show G943 3 = li from ((hF952.1 3 rfl).trans ((hF927.1 3 rfl).trans ((hF883.1 3 rfl).trans ((hF810.1 3 rfl).trans ((hFx.1 3 rfl).trans (e_li))))))) (fk := fk2_947) (e_fk := show G943 16 = fk2_947 from (e955)) (tk0 := tk2_950) (e_tk0 := show G943 11 = tk2_950 from (e958))    (p_0 := by omega)) (fun o V' hq => ?_)
                    obtain ⟨G983, A984, ln2_985, fk2_986, rfl, rfl, hW987, hF988, e989, e990, q991⟩ := hq
                    have hF992 := Fr_tr hF981 hF988 (Fr_sub (by decide)) (Fr_sub (by decide))
                    have bln2_985 : (0 : Int) ≤ ln2_985 ∧ ln2_985 ≤ 3000 := e989 ▸ hW987.1 9
                    have bfk2_986 : (0 : Int) ≤ fk2_986 ∧ fk2_986 ≤ 6 := e990 ▸ hW987.1 16
                    refine .inl ⟨rfl, ?_⟩
                    rcases q991 with ⟨a993, a994, a995, a996, a997⟩ | ⟨a998, a999⟩
                    · have _q : True := trivial
                      exfalso
                      omega
                    · have _q : True := trivial
                      refine jx_ld (pc' := 364) (l' := L) (st' := [.int (i32 (one))]) rfl (jl_iloadn gL_1) ?_
                      refine jx_rt (v := some (.int (i32 (one)))) rfl rfl rfl rfl rfl rfl ?_
                      exact ⟨_, _, _, at2_946, fk2_986, nd2_949, ln2_985, rfl, rfl, hW987, hF992, by omega, ((hF988.1 10 rfl).trans (e954)), (e990), ((hF988.1 31 rfl).trans (e957)), (e989), by omega, by omega, by omega, by omega, by omega, by first | exact Or.inl (⟨by omega, by omega, by omega⟩) | exact Or.inr ((⟨by omega, by omega, by omega⟩))⟩
                  · have _q : True := trivial
                    exfalso
                    omega
                  · have _q : True := trivial
                    exfalso
                    omega
                · have _q : True := trivial
                  exfalso
                  omega
              · have _q : True := trivial
                refine jx_vr (pc' := 348) (as := [.int (i32 (0))]) (st := []) rfl rfl rfl rfl ⟨rfl, rfl, Nat.le_of_ble_eq_true rfl⟩ rfl rfl (c_need (dd := d) (hd := by omega) (hW := hW911) (g := 0) (ln := ln) (e_ln := show G874 9 = ln from ((hF883.1 9 rfl).trans ((hF810.1 9 rfl).trans (fx_9)))) (le := le) (e_le := show A910 4 (ln).toNat = le from (congrFun (((congrFun eA910 4).trans (uA_ne (by decide))).trans ((hF883.2 4 rfl).trans ((hF810.2 4 rfl).trans (((congrFun eA1 4).trans (uA_ne (by decide))).trans (hFx.2 4 rfl))))) _).trans (e_le)) (at0 := at2_877) (e_at0 := show G874 10 = at2_877 from (e885)) (fk := fk2_878) (e_fk := show G874 16 = fk2_878 from (e886)) (tk0 := tk2_881) (e_tk0 := show G874 11 = tk2_881 from (e889))  (h_g := by omega)  (p_0 := by omega)) (fun o V' hq => ?_)
                obtain ⟨G1000, A1001, at2_1002, tk2_1003, fk2_1004, rfl, rfl, hW1005, hF1006, e1007, e1008, e1009, p1010, p1011, q1012⟩ := hq
                have hF1013 := Fr_tr hF912 hF1006 (Fr_sub (by decide)) (Fr_sub (by decide))
                have bat2_1002 : (0 : Int) ≤ at2_1002 ∧ at2_1002 ≤ 3002 := e1007 ▸ hW1005.1 10
                have ztk2_1003 := tz_b tk2_1003
                have btk2_1003 : (0 : Int) ≤ tk2_1003 ∧ tk2_1003 ≤ 5 := e1008 ▸ hW1005.1 11
                have bfk2_1004 : (0 : Int) ≤ fk2_1004 ∧ fk2_1004 ≤ 6 := e1009 ▸ hW1005.1 16
                refine .inl ⟨rfl, ?_⟩
                rcases q1012 with ⟨a1014, a1015, a1016, a1017⟩ | ⟨a1018, a1019, a1020, a1021⟩
                · have _q : True := trivial
                  refine jx_ld (pc' := 349) (l' := L) (st' := [.ref 66]) rfl (jl_aloadn gL_0) ?_
                  refine jr_get (pc' := 352) (i := 36) (v := .ref 86) rfl rfl (by decide) rfl rfl ?_
                  refine jx_ld (pc' := 353) (l' := L) (st' := [.int (i32 (one)), .ref 86]) rfl (jl_iloadn gL_1) ?_
                  refine jx_ld (pc' := 354) (l' := L) (st' := [.ref 66, .int (i32 (one)), .ref 86]) rfl (jl_aloadn gL_0) ?_
                  refine jx_ar (pc' := 355) (st' := [.int (i32 (0)), .ref 66, .int (i32 (one)), .ref 86]) rfl rfl rfl rfl ?_
                  refine jx_vr (pc' := 358) (as := [.int (i32 (0))]) (st := [.int (i32 (one)), .ref 86]) rfl rfl rfl rfl ⟨rfl, rfl, Nat.le_of_ble_eq_true rfl⟩ rfl rfl (c_readReference (dd := d) (hd := by omega) (hW := hW1005) (ch := 0) (ln := ln) (e_ln := show G1000 9 = ln from ((hF1006.1 9 rfl).trans ((hF883.1 9 rfl).trans ((hF810.1 9 rfl).trans (fx_9))))) (le := le) (e_le := show A1001 4 (ln).toNat = le from (congrFun ((hF1006.2 4 rfl).trans (((congrFun eA910 4).trans (uA_ne (by decide))).trans ((hF883.2 4 rfl).trans ((hF810.2 4 rfl).trans (((congrFun eA1 4).trans (uA_ne (by decide))).trans (hFx.2 4 rfl)))))) _).trans (e_le)) (at0 := at2_1002) (e_at0 := show G1000 10 = at2_1002 from (e1007)) (fk := fk2_1004) (e_fk := show G1000 16 = fk2_1004 from (e1009)) (op0 := op2_879) (e_op0 := show G1000 15 = op2_879 from ((hF1006.1 15 rfl).trans (e887))) (nd := nd2_880) (e_nd := show G1000 31 = nd2_880 from ((hF1006.1 31 rfl).trans (e888))) (tk0 := tk2_1003) (e_tk0 := show G1000 11 = tk2_1003 from (e1008))  (h_ch := by omega)  (p_0 := by omega) (p_1 := by omega) (p_2 := by omega) (p_3 := by omega) (p_4 := by omega)) (fun o V' hq => ?_)
                  obtain ⟨G1022, A1023, r1024, at2_1025, fk2_1026, op2_1027, nd2_1028, tk2_1029, rfl, rfl, hW1030, hF1031, b1032, e1033, e1034, e1035, e1036, e1037, p1038, p1039, p1040, p1041, p1042, p1043, q1044⟩ := hq
                  have hF1045 := Fr_tr hF1013 hF1031 (Fr_sub (by decide)) (Fr_sub (by decide))
                  have bat2_1025 : (0 : Int) ≤ at2_1025 ∧ at2_1025 ≤ 3002 := e1033 ▸ hW1030.1 10
                  have bfk2_1026 : (0 : Int) ≤ fk2_1026 ∧ fk2_1026 ≤ 6 := e1034 ▸ hW1030.1 16
                  have bop2_1027 : (-2147483648 : Int) ≤ op2_1027 ∧ op2_1027 ≤ 2147483647 := e1035 ▸ hW1030.1 15
                  have bnd2_1028 : (0 : Int) ≤ nd2_1028 ∧ nd2_1028 ≤ 6999 := e1036 ▸ hW1030.1 31
                  have ztk2_1029 := tz_b tk2_1029
                  have btk2_1029 : (0 : Int) ≤ tk2_1029 ∧ tk2_1029 ≤ 5 := e1037 ▸ hW1030.1 11
                  refine .inr ⟨_, rfl, ?_⟩
                  rcases q1044 with ⟨a1046, a1047, a1048, a1049, a1050, a1051⟩ | ⟨a1052, a1053, a1054⟩ | ⟨a1055, a1056, a1057⟩
                  · have _q : True := trivial
                    refine jr_st (pc' := 359) (i := 19) (m := 7000) (z := one) (y := r1024) rfl (by decide) rfl (by decide) (by omega) (by omega) rfl ?_
                    have hW1059 : Wk G1022 (uA A1023 19 (one).toNat (r1024)) := Wk_a hW1030 (show (-2147483648 : Int) ≤ r1024 by omega) (show r1024 ≤ (2147483647 : Int) by omega)
                    have hF1060 := Fr_a (z := r1024) (k := 19) (n := (one).toNat) hF1045 (by decide)
                    obtain ⟨A1058, eA1058⟩ : ∃ q, q = uA A1023 19 (one).toNat (r1024) := ⟨_, rfl⟩
                    rw [← eA1058]
                    rw [← eA1058] at hW1059 hF1060
                    have q1061 : A1058 19 (one).toNat = r1024 := by rw [eA1058]; exact uA_eq
                    refine jx_ld (pc' := 360) (l' := L) (st' := [.ref 66]) rfl (jl_aloadn gL_0) ?_
                    refine jx_vr (pc' := 363) (as := []) (st := []) rfl rfl rfl rfl ⟨rfl, rfl, Nat.le_of_ble_eq_true rfl⟩ rfl rfl (c_endLine (dd := d) (hd := by omega) (hW := hW1059)  (ln := ln) (e_ln := show G1022 9 = ln from ((hF1031.1 9 rfl).trans ((hF1006.1 9 rfl).trans ((hF883.1 9 rfl).trans ((hF810.1 9 rfl).trans (fx_9)))))) (li := li) (e_li := show G1022 3 = li from ((hF1031.1 3 rfl).trans ((hF1006.1 3 rfl).trans ((hF883.1 3 rfl).trans ((hF810.1 3 rfl).trans ((hFx.1 3 rfl).trans (e_li))))))) (fk := fk2_1026) (e_fk := show G1022 16 = fk2_1026 from (e1034)) (tk0 := tk2_1029) (e_tk0 := show G1022 11 = tk2_1029 from (e1037))    (p_0 := by omega)) (fun o V' hq => ?_)
                    obtain ⟨G1062, A1063, ln2_1064, fk2_1065, rfl, rfl, hW1066, hF1067, e1068, e1069, q1070⟩ := hq
                    have hF1071 := Fr_tr hF1060 hF1067 (Fr_sub (by decide)) (Fr_sub (by decide))
                    have bln2_1064 : (0 : Int) ≤ ln2_1064 ∧ ln2_1064 ≤ 3000 := e1068 ▸ hW1066.1 9
                    have bfk2_1065 : (0 : Int) ≤ fk2_1065 ∧ fk2_1065 ≤ 6 := e1069 ▸ hW1066.1 16
                    refine .inl ⟨rfl, ?_⟩
                    rcases q1070 with ⟨a1072, a1073, a1074, a1075, a1076⟩ | ⟨a1077, a1078⟩
                    · have _q : True := trivial
                      exfalso
                      omega
                    · have _q : True := trivial
                      refine jx_ld (pc' := 364) (l' := L) (st' := [.int (i32 (one))]) rfl (jl_iloadn gL_1) ?_
                      refine jx_rt (v := some (.int (i32 (one)))) rfl rfl rfl rfl rfl rfl ?_
                      exact ⟨_, _, _, at2_1025, fk2_1065, nd2_1028, ln2_1064, rfl, rfl, hW1066, hF1071, by omega, ((hF1067.1 10 rfl).trans (e1033)), (e1069), ((hF1067.1 31 rfl).trans (e1036)), (e1068), by omega, by omega, by omega, by omega, by omega, by first | exact Or.inl (⟨by omega, by omega, by omega⟩) | exact Or.inr ((⟨by omega, by omega, by omega⟩))⟩
                  · have _q : True := trivial
                    exfalso
                    omega
                  · have _q : True := trivial
                    exfalso
                    omega
                · have _q : True := trivial
                  exfalso
                  omega
            · have _q : True := trivial
              exfalso
              omega
            · have _q : True := trivial
              exfalso
              omega
          · have _q := h873
            exact absurd h873 (by omega)
      · have _q : True := trivial
        exfalso
        omega
  have at_222 : ∀ (L : jL) (Gx : Nat → Int) (Ax : Nat → Nat → Int) (one s ix row ch at1 tk1 fk1 nd1 op1 : Int), jGet L 0 = some (.ref 66) → jGet L 1 = some (.int (i32 one)) → jGet L 4 = some (.int (i32 s)) → jGet L 5 = some (.int (i32 ix)) → jGet L 6 = some (.int (i32 row)) → jGet L 7 = some (.int (i32 ch)) → Wk Gx Ax → Fr [9, 10, 11, 12, 13, 14, 15, 16, 17, 18, 31] [15, 16, 17, 18, 19, 20, 21, 22, 24, 28] G A Gx Ax → Gx 10 = at1 → Gx 11 = tk1 → Gx 16 = fk1 → Gx 31 = nd1 → Gx 15 = op1 → Gx 9 = ln → ((-2147483648 : Int) ≤ one ∧ one ≤ 2147483647) → ((-2147483648 : Int) ≤ s ∧ s ≤ 2147483647) → ((-2147483648 : Int) ≤ ix ∧ ix ≤ 2147483647) → ((-2147483648 : Int) ≤ row ∧ row ≤ 2147483647) → ((-2147483648 : Int) ≤ ch ∧ ch ≤ 2147483647) → (at0 ≤ at1) → (at1 ≤ le) → (nd ≤ nd1) → (op1 = op0) → (0 ≤ one ∧ one ≤ 6998 ∧ one ≤ nd1) → (fk1 = 0) → (nd1 - nd ≤ (2 * at1 - tz tk1) - (2 * at0 - tz tk0)) → (0 ≤ row ∧ row ≤ 1) → (0 ≤ ch ∧ ch ≤ 1) → (ch = 0 ∨ tz tk1 = 1) → wj X d jm303 (222, L, [], rV c0 c1 Gx Ax T) (fun o V' => ∃ (G' : Nat → Int) (A' : Nat → Nat → Int) (r : Int) (at2 : Int) (fk2 : Int) (nd2 : Int) (ln2 : Int), V' = rV c0 c1 G' A' T ∧ o = .inl (some (.int (i32 r))) ∧ Wk G' A' ∧ Fr [9, 10, 11, 12, 13, 14, 15, 16, 17, 18, 31] [15, 16, 17, 18, 19, 20, 21, 22, 24, 28] G A G' A' ∧ ((-2147483648 : Int) ≤ r ∧ r ≤ 2147483647) ∧ G' 10 = at2 ∧ G' 16 = fk2 ∧ G' 31 = nd2 ∧ G' 9 = ln2 ∧ (at0 ≤ at2) ∧ (at2 ≤ le) ∧ (nd ≤ nd2) ∧ (0 ≤ r) ∧ (r ≤ nd2) ∧ (((1 ≤ fk2) ∧ (ln2 = ln) ∧ (nd2 - nd ≤ 2 * at2 - 2 * at0 + 12)) ∨ ((fk2 = 0) ∧ (ln2 = ln + 1) ∧ (nd2 - nd ≤ 2 * at2 - (2 * at0 - tz tk0) + 0)))) := by
    intro L Gx Ax one s ix row ch at1 tk1 fk1 nd1 op1 gL_0 gL_1 gL_4 gL_5 gL_6 gL_7 hWx hFx ex_at1 ex_tk1 ex_fk1 ex_nd1 ex_op1 fx_9 rx_one rx_s rx_ix rx_row rx_ch iv_0 iv_1 iv_2 iv_3 iv_4 iv_5 iv_6 iv_7 iv_8 iv_9
    have b_at1 : (0 : Int) ≤ at1 ∧ at1 ≤ 3002 := ex_at1 ▸ hWx.1 10
    have z_tk1 := tz_f tk1
    have b_tk1 : (0 : Int) ≤ tk1 ∧ tk1 ≤ 5 := ex_tk1 ▸ hWx.1 11
    have b_fk1 : (0 : Int) ≤ fk1 ∧ fk1 ≤ 6 := ex_fk1 ▸ hWx.1 16
    have b_nd1 : (0 : Int) ≤ nd1 ∧ nd1 ≤ 6999 := ex_nd1 ▸ hWx.1 31
    have b_op1 : (-2147483648 : Int) ≤ op1 ∧ op1 ≤ 2147483647 := ex_op1 ▸ hWx.1 15
    refine jx_ld (pc' := 223) (l' := L) (st' := [.ref 66]) rfl (jl_aloadn gL_0) ?_
    refine jx_ld (pc' := 225) (l' := L) (st' := [.int (i32 (row)), .ref 66]) rfl (jl_iload gL_6) ?_
    refine jx_if_eq (pc' := 228) (tg := 232) rfl rfl rfl (by omega) (by omega) (fun h1079 => ?_) (fun h1079 => ?_)
    · have _q := h1079
      refine jx_ar (pc' := 233) (st' := [.int (i32 (2)), .ref 66]) rfl rfl rfl rfl ?_
      refine jx_ld (pc' := 235) (l' := L) (st' := [.int (i32 (s)), .int (i32 (2)), .ref 66]) rfl (jl_iload gL_4) ?_
      refine jx_ld (pc' := 237) (l' := L) (st' := [.int (i32 (ix)), .int (i32 (s)), .int (i32 (2)), .ref 66]) rfl (jl_iload gL_5) ?_
      refine jx_ar (pc' := 238) (st' := [.int (i32 (0)), .int (i32 (ix)), .int (i32 (s)), .int (i32 (2)), .ref 66]) rfl rfl rfl rfl ?_
      refine jx_ar (pc' := 239) (st' := [.int (i32 (0)), .int (i32 (0)), .int (i32 (ix)), .int (i32 (s)), .int (i32 (2)), .ref 66]) rfl rfl rfl rfl ?_
      refine jx_vr (pc' := 242) (as := [.int (i32 (2)), .int (i32 (s)), .int (i32 (ix)), .int (i32 (0)), .int (i32 (0))]) (st := []) rfl rfl rfl rfl ⟨rfl, rfl, Nat.le_of_ble_eq_true rfl⟩ rfl rfl (c_node (dd := d) (hd := by omega) (hW := hWx) (kind := 2) (a := s) (b := ix) (c := 0) (e := 0) (nd := nd1) (e_nd := show Gx 31 = nd1 from (ex_nd1))  (h_kind := by omega) (h_a := by omega) (h_b := by omega) (h_c := by omega) (h_e := by omega)  (p_0 := by omega) (p_1 := by omega)) (fun o V' hq => ?_)
      obtain ⟨G1080, A1081, r1082, nd2_1083, rfl, rfl, hW1084, hF1085, b1086, e1087, p1088, p1089, -⟩ := hq
      have hF1091 := Fr_tr hFx hF1085 (Fr_sub (by decide)) (Fr_sub (by decide))
      have bnd2_1083 : (0 : Int) ≤ nd2_1083 ∧ nd2_1083 ≤ 6999 := e1087 ▸ hW1084.1 31
      refine .inr ⟨_, rfl, ?_⟩
      refine jx_ld (pc' := 244) (l' := jSto1 L 10 (.int (i32 (r1082)))) (st' := []) rfl rfl ?_
      obtain ⟨L1092, eL1092⟩ : ∃ q, q = jSto1 L 10 (.int (i32 (r1082))) := ⟨_, rfl⟩
      rw [← eL1092]
      have gL1092_0 : jGet L1092 0 = some (.ref 66) := eL1092 ▸ jg_ne (by decide) gL_0 rfl
      have gL1092_1 : jGet L1092 1 = some (.int (i32 (one))) := eL1092 ▸ jg_ne (by decide) gL_1 rfl
      have gL1092_4 : jGet L1092 4 = some (.int (i32 (s))) := eL1092 ▸ jg_ne (by decide) gL_4 rfl
      have gL1092_5 : jGet L1092 5 = some (.int (i32 (ix))) := eL1092 ▸ jg_ne (by decide) gL_5 rfl
      have gL1092_6 : jGet L1092 6 = some (.int (i32 (row))) := eL1092 ▸ jg_ne (by decide) gL_6 rfl
      have gL1092_7 : jGet L1092 7 = some (.int (i32 (ch))) := eL1092 ▸ jg_ne (by decide) gL_7 rfl
      have gL1092_10 : jGet L1092 10 = some (.int (i32 (r1082))) := eL1092 ▸ jg_eq
      refine jx_ld (pc' := 246) (l' := L1092) (st' := [.int (i32 (ch))]) rfl (jl_iload gL1092_7) ?_
      refine jx_if_eq (pc' := 249) (tg := 278) rfl rfl rfl (by omega) (by omega) (fun h1093 => ?_) (fun h1093 => ?_)
      · have _q := h1093
        refine jx_ld (pc' := 279) (l' := L1092) (st' := [.ref 66]) rfl (jl_aloadn gL1092_0) ?_
        refine jx_ld (pc' := 281) (l' := L1092) (st' := [.int (i32 (r1082)), .ref 66]) rfl (jl_iload gL1092_10) ?_
        refine jx_vr (pc' := 284) (as := [.int (i32 (r1082))]) (st := []) rfl rfl rfl rfl ⟨rfl, rfl, Nat.le_of_ble_eq_true rfl⟩ rfl rfl (c_readRest (dd := d) (k := 9) (hE := RE_all X 9) (hd := by omega) (hW := hW1084) (x := r1082) (ln := ln) (e_ln := show G1080 9 = ln from ((hF1085.1 9 rfl).trans (fx_9))) (le := le) (e_le := show A1081 4 (ln).toNat = le from (congrFun ((hF1085.2 4 rfl).trans (hFx.2 4 rfl)) _).trans (e_le)) (at0 := at1) (e_at0 := show G1080 10 = at1 from ((hF1085.1 10 rfl).trans (ex_at1))) (fk := fk1) (e_fk := show G1080 16 = fk1 from ((hF1085.1 16 rfl).trans (ex_fk1))) (op0 := op1) (e_op0 := show G1080 15 = op1 from ((hF1085.1 15 rfl).trans (ex_op1))) (nd := nd2_1083) (e_nd := show G1080 31 = nd2_1083 from (e1087)) (tk0 := tk1) (e_tk0 := show G1080 11 = tk1 from ((hF1085.1 11 rfl).trans (ex_tk1)))  (h_x := by omega)  (p_0 := by omega) (p_1 := by omega) (p_2 := by omega) (p_3 := by omega) (p_4 := by omega) (p_5 := by omega) (p_6 := by omega) (p_7 := by omega)) (fun o V' hq => ?_)
        obtain ⟨G1094, A1095, r1096, at2_1097, fk2_1098, op2_1099, nd2_1100, tk2_1101, rfl, rfl, hW1102, hF1103, b1104, e1105, e1106, e1107, e1108, e1109, p1110, p1111, p1112, p1113, p1114, p1115, q1116⟩ := hq
        have hF1117 := Fr_tr hF1091 hF1103 (Fr_sub (by decide)) (Fr_sub (by decide))
        have bat2_1097 : (0 : Int) ≤ at2_1097 ∧ at2_1097 ≤ 3002 := e1105 ▸ hW1102.1 10
        have bfk2_1098 : (0 : Int) ≤ fk2_1098 ∧ fk2_1098 ≤ 6 := e1106 ▸ hW1102.1 16
        have bop2_1099 : (-2147483648 : Int) ≤ op2_1099 ∧ op2_1099 ≤ 2147483647 := e1107 ▸ hW1102.1 15
        have bnd2_1100 : (0 : Int) ≤ nd2_1100 ∧ nd2_1100 ≤ 6999 := e1108 ▸ hW1102.1 31
        have ztk2_1101 := tz_b tk2_1101
        have btk2_1101 : (0 : Int) ≤ tk2_1101 ∧ tk2_1101 ≤ 5 := e1109 ▸ hW1102.1 11
        refine .inr ⟨_, rfl, ?_⟩
        rcases q1116 with ⟨a1118, a1119, a1120, a1121, a1122, a1123⟩ | ⟨a1124, a1125, a1126⟩ | ⟨a1127, a1128, a1129⟩
        · have _q : True := trivial
          exfalso
          omega
        · have _q : True := trivial
          refine jx_ld (pc' := 285) (l' := jSto1 L1092 2 (.int (i32 (r1096)))) (st' := []) rfl rfl ?_
          obtain ⟨L1130, eL1130⟩ : ∃ q, q = jSto1 L1092 2 (.int (i32 (r1096))) := ⟨_, rfl⟩
          rw [← eL1130]
          have gL1130_0 : jGet L1130 0 = some (.ref 66) := eL1130 ▸ jg_ne (by decide) gL1092_0 rfl
          have gL1130_1 : jGet L1130 1 = some (.int (i32 (one))) := eL1130 ▸ jg_ne (by decide) gL1092_1 rfl
          have gL1130_4 : jGet L1130 4 = some (.int (i32 (s))) := eL1130 ▸ jg_ne (by decide) gL1092_4 rfl
          have gL1130_5 : jGet L1130 5 = some (.int (i32 (ix))) := eL1130 ▸ jg_ne (by decide) gL1092_5 rfl
          have gL1130_6 : jGet L1130 6 = some (.int (i32 (row))) := eL1130 ▸ jg_ne (by decide) gL1092_6 rfl
          have gL1130_7 : jGet L1130 7 = some (.int (i32 (ch))) := eL1130 ▸ jg_ne (by decide) gL1092_7 rfl
          have gL1130_10 : jGet L1130 10 = some (.int (i32 (r1082))) := eL1130 ▸ jg_ne (by decide) gL1092_10 rfl
          have gL1130_2 : jGet L1130 2 = some (.int (i32 (r1096))) := eL1130 ▸ jg_eq
          refine jx_go (tg := 293) rfl rfl ?_
          have z1131 := tz_f (tk2_1101)
          exact at_293 L1130 G1094 A1095 (one) (r1096) (at2_1097) (tk2_1101) (fk2_1098) (nd2_1100) (op2_1099) gL1130_0 gL1130_1 gL1130_2 hW1102 hF1117 ((e1105)) ((e1109)) ((e1106)) ((e1108)) ((e1107)) (((hF1103.1 9 rfl).trans ((hF1085.1 9 rfl).trans (fx_9)))) (by omega) (by omega) (by omega) (by omega) (by omega) (by omega) (by omega) (by omega) (by omega)
        · have _q : True := trivial
          refine jx_ld (pc' := 285) (l' := jSto1 L1092 2 (.int (i32 (r1096)))) (st' := []) rfl rfl ?_
          obtain ⟨L1132, eL1132⟩ : ∃ q, q = jSto1 L1092 2 (.int (i32 (r1096))) := ⟨_, rfl⟩
          rw [← eL1132]
          have gL1132_0 : jGet L1132 0 = some (.ref 66) := eL1132 ▸ jg_ne (by decide) gL1092_0 rfl
          have gL1132_1 : jGet L1132 1 = some (.int (i32 (one))) := eL1132 ▸ jg_ne (by decide) gL1092_1 rfl
          have gL1132_4 : jGet L1132 4 = some (.int (i32 (s))) := eL1132 ▸ jg_ne (by decide) gL1092_4 rfl
          have gL1132_5 : jGet L1132 5 = some (.int (i32 (ix))) := eL1132 ▸ jg_ne (by decide) gL1092_5 rfl
          have gL1132_6 : jGet L1132 6 = some (.int (i32 (row))) := eL1132 ▸ jg_ne (by decide) gL1092_6 rfl
          have gL1132_7 : jGet L1132 7 = some (.int (i32 (ch))) := eL1132 ▸ jg_ne (by decide) gL1092_7 rfl
          have gL1132_10 : jGet L1132 10 = some (.int (i32 (r1082))) := eL1132 ▸ jg_ne (by decide) gL1092_10 rfl
          have gL1132_2 : jGet L1132 2 = some (.int (i32 (r1096))) := eL1132 ▸ jg_eq
          refine jx_go (tg := 293) rfl rfl ?_
          have z1133 := tz_f (tk2_1101)
          exact at_293 L1132 G1094 A1095 (one) (r1096) (at2_1097) (tk2_1101) (fk2_1098) (nd2_1100) (op2_1099) gL1132_0 gL1132_1 gL1132_2 hW1102 hF1117 ((e1105)) ((e1109)) ((e1106)) ((e1108)) ((e1107)) (((hF1103.1 9 rfl).trans ((hF1085.1 9 rfl).trans (fx_9)))) (by omega) (by omega) (by omega) (by omega) (by omega) (by omega) (by omega) (by omega) (by omega)
      · have _q := h1093
        refine jx_ld (pc' := 250) (l' := L1092) (st' := [.ref 66]) rfl (jl_aloadn gL1092_0) ?_
        refine jr_get (pc' := 253) (i := 35) (v := .ref 85) rfl rfl (by decide) rfl rfl ?_
        refine jx_ld (pc' := 254) (l' := L1092) (st' := [.int (i32 (one)), .ref 85]) rfl (jl_iloadn gL1092_1) ?_
        refine jx_ld (pc' := 256) (l' := L1092) (st' := [.int (i32 (r1082)), .int (i32 (one)), .ref 85]) rfl (jl_iload gL1092_10) ?_
        refine jr_st (pc' := 257) (i := 18) (m := 7000) (z := one) (y := r1082) rfl (by decide) rfl (by decide) (by omega) (by omega) rfl ?_
        have hW1135 : Wk G1080 (uA A1081 18 (one).toNat (r1082)) := Wk_a hW1084 (show (-2147483648 : Int) ≤ r1082 by omega) (show r1082 ≤ (2147483647 : Int) by omega)
        have hF1136 := Fr_a (z := r1082) (k := 18) (n := (one).toNat) hF1091 (by decide)
        obtain ⟨A1134, eA1134⟩ : ∃ q, q = uA A1081 18 (one).toNat (r1082) := ⟨_, rfl⟩
        rw [← eA1134]
        rw [← eA1134] at hW1135 hF1136
        have q1137 : A1134 18 (one).toNat = r1082 := by rw [eA1134]; exact uA_eq
        refine jx_ld (pc' := 258) (l' := L1092) (st' := [.ref 66]) rfl (jl_aloadn gL1092_0) ?_
        refine jx_vr (pc' := 261) (as := []) (st := []) rfl rfl rfl rfl ⟨rfl, rfl, Nat.le_of_ble_eq_true rfl⟩ rfl rfl (c_next (dd := d) (hd := by omega) (hW := hW1135)  (ln := ln) (e_ln := show G1080 9 = ln from ((hF1085.1 9 rfl).trans (fx_9))) (le := le) (e_le := show A1134 4 (ln).toNat = le from (congrFun (((congrFun eA1134 4).trans (uA_ne (by decide))).trans ((hF1085.2 4 rfl).trans (hFx.2 4 rfl))) _).trans (e_le)) (at0 := at1) (e_at0 := show G1080 10 = at1 from ((hF1085.1 10 rfl).trans (ex_at1)))    (p_0 := by omega)) (fun o V' hq => ?_)
        obtain ⟨G1138, A1139, at2_1140, tk2_1141, rfl, rfl, hW1142, hF1143, e1144, e1145, p1146, p1147, p1148, -⟩ := hq
        have hF1150 := Fr_tr hF1136 hF1143 (Fr_sub (by decide)) (Fr_sub (by decide))
        have bat2_1140 : (0 : Int) ≤ at2_1140 ∧ at2_1140 ≤ 3002 := e1144 ▸ hW1142.1 10
        have ztk2_1141 := tz_b tk2_1141
        have btk2_1141 : (0 : Int) ≤ tk2_1141 ∧ tk2_1141 ≤ 5 := e1145 ▸ hW1142.1 11
        refine .inl ⟨rfl, ?_⟩
        refine jx_ld (pc' := 262) (l' := L1092) (st' := [.ref 66]) rfl (jl_aloadn gL1092_0) ?_
        refine jr_get (pc' := 265) (i := 36) (v := .ref 86) rfl rfl (by decide) rfl rfl ?_
        refine jx_ld (pc' := 266) (l' := L1092) (st' := [.int (i32 (one)), .ref 86]) rfl (jl_iloadn gL1092_1) ?_
        refine jx_ld (pc' := 267) (l' := L1092) (st' := [.ref 66, .int (i32 (one)), .ref 86]) rfl (jl_aloadn gL1092_0) ?_
        refine jx_ar (pc' := 268) (st' := [.int (i32 (0)), .ref 66, .int (i32 (one)), .ref 86]) rfl rfl rfl rfl ?_
        refine jx_vr (pc' := 271) (as := [.int (i32 (0))]) (st := [.int (i32 (one)), .ref 86]) rfl rfl rfl rfl ⟨rfl, rfl, Nat.le_of_ble_eq_true rfl⟩ rfl rfl (c_readReference (dd := d) (hd := by omega) (hW := hW1142) (ch := 0) (ln := ln) (e_ln := show G1138 9 = ln from ((hF1143.1 9 rfl).trans ((hF1085.1 9 rfl).trans (fx_9)))) (le := le) (e_le := show A1139 4 (ln).toNat = le from (congrFun ((hF1143.2 4 rfl).trans (((congrFun eA1134 4).trans (uA_ne (by decide))).trans ((hF1085.2 4 rfl).trans (hFx.2 4 rfl)))) _).trans (e_le)) (at0 := at2_1140) (e_at0 := show G1138 10 = at2_1140 from (e1144)) (fk := fk1) (e_fk := show G1138 16 = fk1 from ((hF1143.1 16 rfl).trans ((hF1085.1 16 rfl).trans (ex_fk1)))) (op0 := op1) (e_op0 := show G1138 15 = op1 from ((hF1143.1 15 rfl).trans ((hF1085.1 15 rfl).trans (ex_op1)))) (nd := nd2_1083) (e_nd := show G1138 31 = nd2_1083 from ((hF1143.1 31 rfl).trans (e1087))) (tk0 := tk2_1141) (e_tk0 := show G1138 11 = tk2_1141 from (e1145))  (h_ch := by omega)  (p_0 := by omega) (p_1 := by omega) (p_2 := by omega) (p_3 := by omega) (p_4 := by omega)) (fun o V' hq => ?_)
        obtain ⟨G1151, A1152, r1153, at2_1154, fk2_1155, op2_1156, nd2_1157, tk2_1158, rfl, rfl, hW1159, hF1160, b1161, e1162, e1163, e1164, e1165, e1166, p1167, p1168, p1169, p1170, p1171, p1172, q1173⟩ := hq
        have hF1174 := Fr_tr hF1150 hF1160 (Fr_sub (by decide)) (Fr_sub (by decide))
        have bat2_1154 : (0 : Int) ≤ at2_1154 ∧ at2_1154 ≤ 3002 := e1162 ▸ hW1159.1 10
        have bfk2_1155 : (0 : Int) ≤ fk2_1155 ∧ fk2_1155 ≤ 6 := e1163 ▸ hW1159.1 16
        have bop2_1156 : (-2147483648 : Int) ≤ op2_1156 ∧ op2_1156 ≤ 2147483647 := e1164 ▸ hW1159.1 15
        have bnd2_1157 : (0 : Int) ≤ nd2_1157 ∧ nd2_1157 ≤ 6999 := e1165 ▸ hW1159.1 31
        have ztk2_1158 := tz_b tk2_1158
        have btk2_1158 : (0 : Int) ≤ tk2_1158 ∧ tk2_1158 ≤ 5 := e1166 ▸ hW1159.1 11
        refine .inr ⟨_, rfl, ?_⟩
        rcases q1173 with ⟨a1175, a1176, a1177, a1178, a1179, a1180⟩ | ⟨a1181, a1182, a1183⟩ | ⟨a1184, a1185, a1186⟩
        · have _q : True := trivial
          exfalso
          omega
        · have _q : True := trivial
          refine jr_st (pc' := 272) (i := 19) (m := 7000) (z := one) (y := r1153) rfl (by decide) rfl (by decide) (by omega) (by omega) rfl ?_
          have hW1188 : Wk G1151 (uA A1152 19 (one).toNat (r1153)) := Wk_a hW1159 (show (-2147483648 : Int) ≤ r1153 by omega) (show r1153 ≤ (2147483647 : Int) by omega)
          have hF1189 := Fr_a (z := r1153) (k := 19) (n := (one).toNat) hF1174 (by decide)
          obtain ⟨A1187, eA1187⟩ : ∃ q, q = uA A1152 19 (one).toNat (r1153) := ⟨_, rfl⟩
          rw [← eA1187]
          rw [← eA1187] at hW1188 hF1189
          have q1190 : A1187 19 (one).toNat = r1153 := by rw [eA1187]; exact uA_eq
          refine jx_ld (pc' := 273) (l' := L1092) (st' := [.ref 66]) rfl (jl_aloadn gL1092_0) ?_
          refine jx_vr (pc' := 276) (as := []) (st := []) rfl rfl rfl rfl ⟨rfl, rfl, Nat.le_of_ble_eq_true rfl⟩ rfl rfl (c_endLine (dd := d) (hd := by omega) (hW := hW1188)  (ln := ln) (e_ln := show G1151 9 = ln from ((hF1160.1 9 rfl).trans ((hF1143.1 9 rfl).trans ((hF1085.1 9 rfl).trans (fx_9))))) (li := li) (e_li := show G1151 3 = li from ((hF1160.1 3 rfl).trans ((hF1143.1 3 rfl).trans ((hF1085.1 3 rfl).trans ((hFx.1 3 rfl).trans (e_li)))))) (fk := fk2_1155) (e_fk := show G1151 16 = fk2_1155 from (e1163)) (tk0 := tk2_1158) (e_tk0 := show G1151 11 = tk2_1158 from (e1166))    (p_0 := by omega)) (fun o V' hq => ?_)
          obtain ⟨G1191, A1192, ln2_1193, fk2_1194, rfl, rfl, hW1195, hF1196, e1197, e1198, q1199⟩ := hq
          have hF1200 := Fr_tr hF1189 hF1196 (Fr_sub (by decide)) (Fr_sub (by decide))
          have bln2_1193 : (0 : Int) ≤ ln2_1193 ∧ ln2_1193 ≤ 3000 := e1197 ▸ hW1195.1 9
          have bfk2_1194 : (0 : Int) ≤ fk2_1194 ∧ fk2_1194 ≤ 6 := e1198 ▸ hW1195.1 16
          refine .inl ⟨rfl, ?_⟩
          rcases q1199 with ⟨a1201, a1202, a1203, a1204, a1205⟩ | ⟨a1206, a1207⟩
          · have _q : True := trivial
            exfalso
            omega
          · have _q : True := trivial
            refine jx_ld (pc' := 277) (l' := L1092) (st' := [.int (i32 (one))]) rfl (jl_iloadn gL1092_1) ?_
            refine jx_rt (v := some (.int (i32 (one)))) rfl rfl rfl rfl rfl rfl ?_
            exact ⟨_, _, _, at2_1154, fk2_1194, nd2_1157, ln2_1193, rfl, rfl, hW1195, hF1200, by omega, ((hF1196.1 10 rfl).trans (e1162)), (e1198), ((hF1196.1 31 rfl).trans (e1165)), (e1197), by omega, by omega, by omega, by omega, by omega, by first | exact Or.inl (⟨by omega, by omega, by omega⟩) | exact Or.inr ((⟨by omega, by omega, by omega⟩))⟩
        · have _q : True := trivial
          refine jr_st (pc' := 272) (i := 19) (m := 7000) (z := one) (y := r1153) rfl (by decide) rfl (by decide) (by omega) (by omega) rfl ?_
          have hW1209 : Wk G1151 (uA A1152 19 (one).toNat (r1153)) := Wk_a hW1159 (show (-2147483648 : Int) ≤ r1153 by omega) (show r1153 ≤ (2147483647 : Int) by omega)
          have hF1210 := Fr_a (z := r1153) (k := 19) (n := (one).toNat) hF1174 (by decide)
          obtain ⟨A1208, eA1208⟩ : ∃ q, q = uA A1152 19 (one).toNat (r1153) := ⟨_, rfl⟩
          rw [← eA1208]
          rw [← eA1208] at hW1209 hF1210
          have q1211 : A1208 19 (one).toNat = r1153 := by rw [eA1208]; exact uA_eq
          refine jx_ld (pc' := 273) (l' := L1092) (st' := [.ref 66]) rfl (jl_aloadn gL1092_0) ?_
          refine jx_vr (pc' := 276) (as := []) (st := []) rfl rfl rfl rfl ⟨rfl, rfl, Nat.le_of_ble_eq_true rfl⟩ rfl rfl (c_endLine (dd := d) (hd := by omega) (hW := hW1209)  (ln := ln) (e_ln := show G1151 9 = ln from ((hF1160.1 9 rfl).trans ((hF1143.1 9 rfl).trans ((hF1085.1 9 rfl).trans (fx_9))))) (li := li) (e_li := show G1151 3 = li from ((hF1160.1 3 rfl).trans ((hF1143.1 3 rfl).trans ((hF1085.1 3 rfl).trans ((hFx.1 3 rfl).trans (e_li)))))) (fk := fk2_1155) (e_fk := show G1151 16 = fk2_1155 from (e1163)) (tk0 := tk2_1158) (e_tk0 := show G1151 11 = tk2_1158 from (e1166))    (p_0 := by omega)) (fun o V' hq => ?_)
          obtain ⟨G1212, A1213, ln2_1214, fk2_1215, rfl, rfl, hW1216, hF1217, e1218, e1219, q1220⟩ := hq
          have hF1221 := Fr_tr hF1210 hF1217 (Fr_sub (by decide)) (Fr_sub (by decide))
          have bln2_1214 : (0 : Int) ≤ ln2_1214 ∧ ln2_1214 ≤ 3000 := e1218 ▸ hW1216.1 9
          have bfk2_1215 : (0 : Int) ≤ fk2_1215 ∧ fk2_1215 ≤ 6 := e1219 ▸ hW1216.1 16
          refine .inl ⟨rfl, ?_⟩
          rcases q1220 with ⟨a1222, a1223, a1224, a1225, a1226⟩ | ⟨a1227, a1228⟩
          · have _q : True := trivial
            refine jx_ld (pc' := 277) (l' := L1092) (st' := [.int (i32 (one))]) rfl (jl_iloadn gL1092_1) ?_
            refine jx_rt (v := some (.int (i32 (one)))) rfl rfl rfl rfl rfl rfl ?_
            exact ⟨_, _, _, at2_1154, fk2_1215, nd2_1157, ln2_1214, rfl, rfl, hW1216, hF1221, by omega, ((hF1217.1 10 rfl).trans (e1162)), (e1219), ((hF1217.1 31 rfl).trans (e1165)), (e1218), by omega, by omega, by omega, by omega, by omega, by first | exact Or.inl (⟨by omega, by omega, by omega⟩) | exact Or.inr ((⟨by omega, by omega, by omega⟩))⟩
          · have _q : True := trivial
            refine jx_ld (pc' := 277) (l' := L1092) (st' := [.int (i32 (one))]) rfl (jl_iloadn gL1092_1) ?_
            refine jx_rt (v := some (.int (i32 (one)))) rfl rfl rfl rfl rfl rfl ?_
            exact ⟨_, _, _, at2_1154, fk2_1215, nd2_1157, ln2_1214, rfl, rfl, hW1216, hF1221, by omega, ((hF1217.1 10 rfl).trans (e1162)), (e1219), ((hF1217.1 31 rfl).trans (e1165)), (e1218), by omega, by omega, by omega, by omega, by omega, by first | exact Or.inl (⟨by omega, by omega, by omega⟩) | exact Or.inr ((⟨by omega, by omega, by omega⟩))⟩
    · have _q := h1079
      refine jx_ar (pc' := 229) (st' := [.int (i32 (3)), .ref 66]) rfl rfl rfl rfl ?_
      refine jx_go (tg := 233) rfl rfl ?_
      refine jx_ld (pc' := 235) (l' := L) (st' := [.int (i32 (s)), .int (i32 (3)), .ref 66]) rfl (jl_iload gL_4) ?_
      refine jx_ld (pc' := 237) (l' := L) (st' := [.int (i32 (ix)), .int (i32 (s)), .int (i32 (3)), .ref 66]) rfl (jl_iload gL_5) ?_
      refine jx_ar (pc' := 238) (st' := [.int (i32 (0)), .int (i32 (ix)), .int (i32 (s)), .int (i32 (3)), .ref 66]) rfl rfl rfl rfl ?_
      refine jx_ar (pc' := 239) (st' := [.int (i32 (0)), .int (i32 (0)), .int (i32 (ix)), .int (i32 (s)), .int (i32 (3)), .ref 66]) rfl rfl rfl rfl ?_
      refine jx_vr (pc' := 242) (as := [.int (i32 (3)), .int (i32 (s)), .int (i32 (ix)), .int (i32 (0)), .int (i32 (0))]) (st := []) rfl rfl rfl rfl ⟨rfl, rfl, Nat.le_of_ble_eq_true rfl⟩ rfl rfl (c_node (dd := d) (hd := by omega) (hW := hWx) (kind := 3) (a := s) (b := ix) (c := 0) (e := 0) (nd := nd1) (e_nd := show Gx 31 = nd1 from (ex_nd1))  (h_kind := by omega) (h_a := by omega) (h_b := by omega) (h_c := by omega) (h_e := by omega)  (p_0 := by omega) (p_1 := by omega)) (fun o V' hq => ?_)
      obtain ⟨G1229, A1230, r1231, nd2_1232, rfl, rfl, hW1233, hF1234, b1235, e1236, p1237, p1238, -⟩ := hq
      have hF1240 := Fr_tr hFx hF1234 (Fr_sub (by decide)) (Fr_sub (by decide))
      have bnd2_1232 : (0 : Int) ≤ nd2_1232 ∧ nd2_1232 ≤ 6999 := e1236 ▸ hW1233.1 31
      refine .inr ⟨_, rfl, ?_⟩
      refine jx_ld (pc' := 244) (l' := jSto1 L 10 (.int (i32 (r1231)))) (st' := []) rfl rfl ?_
      obtain ⟨L1241, eL1241⟩ : ∃ q, q = jSto1 L 10 (.int (i32 (r1231))) := ⟨_, rfl⟩
      rw [← eL1241]
      have gL1241_0 : jGet L1241 0 = some (.ref 66) := eL1241 ▸ jg_ne (by decide) gL_0 rfl
      have gL1241_1 : jGet L1241 1 = some (.int (i32 (one))) := eL1241 ▸ jg_ne (by decide) gL_1 rfl
      have gL1241_4 : jGet L1241 4 = some (.int (i32 (s))) := eL1241 ▸ jg_ne (by decide) gL_4 rfl
      have gL1241_5 : jGet L1241 5 = some (.int (i32 (ix))) := eL1241 ▸ jg_ne (by decide) gL_5 rfl
      have gL1241_6 : jGet L1241 6 = some (.int (i32 (row))) := eL1241 ▸ jg_ne (by decide) gL_6 rfl
      have gL1241_7 : jGet L1241 7 = some (.int (i32 (ch))) := eL1241 ▸ jg_ne (by decide) gL_7 rfl
      have gL1241_10 : jGet L1241 10 = some (.int (i32 (r1231))) := eL1241 ▸ jg_eq
      refine jx_ld (pc' := 246) (l' := L1241) (st' := [.int (i32 (ch))]) rfl (jl_iload gL1241_7) ?_
      refine jx_if_eq (pc' := 249) (tg := 278) rfl rfl rfl (by omega) (by omega) (fun h1242 => ?_) (fun h1242 => ?_)
      · have _q := h1242
        refine jx_ld (pc' := 279) (l' := L1241) (st' := [.ref 66]) rfl (jl_aloadn gL1241_0) ?_
        refine jx_ld (pc' := 281) (l' := L1241) (st' := [.int (i32 (r1231)), .ref 66]) rfl (jl_iload gL1241_10) ?_
        refine jx_vr (pc' := 284) (as := [.int (i32 (r1231))]) (st := []) rfl rfl rfl rfl ⟨rfl, rfl, Nat.le_of_ble_eq_true rfl⟩ rfl rfl (c_readRest (dd := d) (k := 9) (hE := RE_all X 9) (hd := by omega) (hW := hW1233) (x := r1231) (ln := ln) (e_ln := show G1229 9 = ln from ((hF1234.1 9 rfl).trans (fx_9))) (le := le) (e_le := show A1230 4 (ln).toNat = le from (congrFun ((hF1234.2 4 rfl).trans (hFx.2 4 rfl)) _).trans (e_le)) (at0 := at1) (e_at0 := show G1229 10 = at1 from ((hF1234.1 10 rfl).trans (ex_at1))) (fk := fk1) (e_fk := show G1229 16 = fk1 from ((hF1234.1 16 rfl).trans (ex_fk1))) (op0 := op1) (e_op0 := show G1229 15 = op1 from ((hF1234.1 15 rfl).trans (ex_op1))) (nd := nd2_1232) (e_nd := show G1229 31 = nd2_1232 from (e1236)) (tk0 := tk1) (e_tk0 := show G1229 11 = tk1 from ((hF1234.1 11 rfl).trans (ex_tk1)))  (h_x := by omega)  (p_0 := by omega) (p_1 := by omega) (p_2 := by omega) (p_3 := by omega) (p_4 := by omega) (p_5 := by omega) (p_6 := by omega) (p_7 := by omega)) (fun o V' hq => ?_)
        obtain ⟨G1243, A1244, r1245, at2_1246, fk2_1247, op2_1248, nd2_1249, tk2_1250, rfl, rfl, hW1251, hF1252, b1253, e1254, e1255, e1256, e1257, e1258, p1259, p1260, p1261, p1262, p1263, p1264, q1265⟩ := hq
        have hF1266 := Fr_tr hF1240 hF1252 (Fr_sub (by decide)) (Fr_sub (by decide))
        have bat2_1246 : (0 : Int) ≤ at2_1246 ∧ at2_1246 ≤ 3002 := e1254 ▸ hW1251.1 10
        have bfk2_1247 : (0 : Int) ≤ fk2_1247 ∧ fk2_1247 ≤ 6 := e1255 ▸ hW1251.1 16
        have bop2_1248 : (-2147483648 : Int) ≤ op2_1248 ∧ op2_1248 ≤ 2147483647 := e1256 ▸ hW1251.1 15
        have bnd2_1249 : (0 : Int) ≤ nd2_1249 ∧ nd2_1249 ≤ 6999 := e1257 ▸ hW1251.1 31
        have ztk2_1250 := tz_b tk2_1250
        have btk2_1250 : (0 : Int) ≤ tk2_1250 ∧ tk2_1250 ≤ 5 := e1258 ▸ hW1251.1 11
        refine .inr ⟨_, rfl, ?_⟩
        rcases q1265 with ⟨a1267, a1268, a1269, a1270, a1271, a1272⟩ | ⟨a1273, a1274, a1275⟩ | ⟨a1276, a1277, a1278⟩
        · have _q : True := trivial
          exfalso
          omega
        · have _q : True := trivial
          refine jx_ld (pc' := 285) (l' := jSto1 L1241 2 (.int (i32 (r1245)))) (st' := []) rfl rfl ?_
          obtain ⟨L1279, eL1279⟩ : ∃ q, q = jSto1 L1241 2 (.int (i32 (r1245))) := ⟨_, rfl⟩
          rw [← eL1279]
          have gL1279_0 : jGet L1279 0 = some (.ref 66) := eL1279 ▸ jg_ne (by decide) gL1241_0 rfl
          have gL1279_1 : jGet L1279 1 = some (.int (i32 (one))) := eL1279 ▸ jg_ne (by decide) gL1241_1 rfl
          have gL1279_4 : jGet L1279 4 = some (.int (i32 (s))) := eL1279 ▸ jg_ne (by decide) gL1241_4 rfl
          have gL1279_5 : jGet L1279 5 = some (.int (i32 (ix))) := eL1279 ▸ jg_ne (by decide) gL1241_5 rfl
          have gL1279_6 : jGet L1279 6 = some (.int (i32 (row))) := eL1279 ▸ jg_ne (by decide) gL1241_6 rfl
          have gL1279_7 : jGet L1279 7 = some (.int (i32 (ch))) := eL1279 ▸ jg_ne (by decide) gL1241_7 rfl
          have gL1279_10 : jGet L1279 10 = some (.int (i32 (r1231))) := eL1279 ▸ jg_ne (by decide) gL1241_10 rfl
          have gL1279_2 : jGet L1279 2 = some (.int (i32 (r1245))) := eL1279 ▸ jg_eq
          refine jx_go (tg := 293) rfl rfl ?_
          have z1280 := tz_f (tk2_1250)
          exact at_293 L1279 G1243 A1244 (one) (r1245) (at2_1246) (tk2_1250) (fk2_1247) (nd2_1249) (op2_1248) gL1279_0 gL1279_1 gL1279_2 hW1251 hF1266 ((e1254)) ((e1258)) ((e1255)) ((e1257)) ((e1256)) (((hF1252.1 9 rfl).trans ((hF1234.1 9 rfl).trans (fx_9)))) (by omega) (by omega) (by omega) (by omega) (by omega) (by omega) (by omega) (by omega) (by omega)
        · have _q : True := trivial
          refine jx_ld (pc' := 285) (l' := jSto1 L1241 2 (.int (i32 (r1245)))) (st' := []) rfl rfl ?_
          obtain ⟨L1281, eL1281⟩ : ∃ q, q = jSto1 L1241 2 (.int (i32 (r1245))) := ⟨_, rfl⟩
          rw [← eL1281]
          have gL1281_0 : jGet L1281 0 = some (.ref 66) := eL1281 ▸ jg_ne (by decide) gL1241_0 rfl
          have gL1281_1 : jGet L1281 1 = some (.int (i32 (one))) := eL1281 ▸ jg_ne (by decide) gL1241_1 rfl
          have gL1281_4 : jGet L1281 4 = some (.int (i32 (s))) := eL1281 ▸ jg_ne (by decide) gL1241_4 rfl
          have gL1281_5 : jGet L1281 5 = some (.int (i32 (ix))) := eL1281 ▸ jg_ne (by decide) gL1241_5 rfl
          have gL1281_6 : jGet L1281 6 = some (.int (i32 (row))) := eL1281 ▸ jg_ne (by decide) gL1241_6 rfl
          have gL1281_7 : jGet L1281 7 = some (.int (i32 (ch))) := eL1281 ▸ jg_ne (by decide) gL1241_7 rfl
          have gL1281_10 : jGet L1281 10 = some (.int (i32 (r1231))) := eL1281 ▸ jg_ne (by decide) gL1241_10 rfl
          have gL1281_2 : jGet L1281 2 = some (.int (i32 (r1245))) := eL1281 ▸ jg_eq
          refine jx_go (tg := 293) rfl rfl ?_
          have z1282 := tz_f (tk2_1250)
          exact at_293 L1281 G1243 A1244 (one) (r1245) (at2_1246) (tk2_1250) (fk2_1247) (nd2_1249) (op2_1248) gL1281_0 gL1281_1 gL1281_2 hW1251 hF1266 ((e1254)) ((e1258)) ((e1255)) ((e1257)) ((e1256)) (((hF1252.1 9 rfl).trans ((hF1234.1 9 rfl).trans (fx_9)))) (by omega) (by omega) (by omega) (by omega) (by omega) (by omega) (by omega) (by omega) (by omega)
      · have _q := h1242
        refine jx_ld (pc' := 250) (l' := L1241) (st' := [.ref 66]) rfl (jl_aloadn gL1241_0) ?_
        refine jr_get (pc' := 253) (i := 35) (v := .ref 85) rfl rfl (by decide) rfl rfl ?_
        refine jx_ld (pc' := 254) (l' := L1241) (st' := [.int (i32 (one)), .ref 85]) rfl (jl_iloadn gL1241_1) ?_
        refine jx_ld (pc' := 256) (l' := L1241) (st' := [.int (i32 (r1231)), .int (i32 (one)), .ref 85]) rfl (jl_iload gL1241_10) ?_
        refine jr_st (pc' := 257) (i := 18) (m := 7000) (z := one) (y := r1231) rfl (by decide) rfl (by decide) (by omega) (by omega) rfl ?_
        have hW1284 : Wk G1229 (uA A1230 18 (one).toNat (r1231)) := Wk_a hW1233 (show (-2147483648 : Int) ≤ r1231 by omega) (show r1231 ≤ (2147483647 : Int) by omega)
        have hF1285 := Fr_a (z := r1231) (k := 18) (n := (one).toNat) hF1240 (by decide)
        obtain ⟨A1283, eA1283⟩ : ∃ q, q = uA A1230 18 (one).toNat (r1231) := ⟨_, rfl⟩
        rw [← eA1283]
        rw [← eA1283] at hW1284 hF1285
        have q1286 : A1283 18 (one).toNat = r1231 := by rw [eA1283]; exact uA_eq
        refine jx_ld (pc' := 258) (l' := L1241) (st' := [.ref 66]) rfl (jl_aloadn gL1241_0) ?_
        refine jx_vr (pc' := 261) (as := []) (st := []) rfl rfl rfl rfl ⟨rfl, rfl, Nat.le_of_ble_eq_true rfl⟩ rfl rfl (c_next (dd := d) (hd := by omega) (hW := hW1284)  (ln := ln) (e_ln := show G1229 9 = ln from ((hF1234.1 9 rfl).trans (fx_9))) (le := le) (e_le := show A1283 4 (ln).toNat = le from (congrFun (((congrFun eA1283 4).trans (uA_ne (by decide))).trans ((hF1234.2 4 rfl).trans (hFx.2 4 rfl))) _).trans (e_le)) (at0 := at1) (e_at0 := show G1229 10 = at1 from ((hF1234.1 10 rfl).trans (ex_at1)))    (p_0 := by omega)) (fun o V' hq => ?_)
        obtain ⟨G1287, A1288, at2_1289, tk2_1290, rfl, rfl, hW1291, hF1292, e1293, e1294, p1295, p1296, p1297, -⟩ := hq
        have hF1299 := Fr_tr hF1285 hF1292 (Fr_sub (by decide)) (Fr_sub (by decide))
        have bat2_1289 : (0 : Int) ≤ at2_1289 ∧ at2_1289 ≤ 3002 := e1293 ▸ hW1291.1 10
        have ztk2_1290 := tz_b tk2_1290
        have btk2_1290 : (0 : Int) ≤ tk2_1290 ∧ tk2_1290 ≤ 5 := e1294 ▸ hW1291.1 11
        refine .inl ⟨rfl, ?_⟩
        refine jx_ld (pc' := 262) (l' := L1241) (st' := [.ref 66]) rfl (jl_aloadn gL1241_0) ?_
        refine jr_get (pc' := 265) (i := 36) (v := .ref 86) rfl rfl (by decide) rfl rfl ?_
        refine jx_ld (pc' := 266) (l' := L1241) (st' := [.int (i32 (one)), .ref 86]) rfl (jl_iloadn gL1241_1) ?_
        refine jx_ld (pc' := 267) (l' := L1241) (st' := [.ref 66, .int (i32 (one)), .ref 86]) rfl (jl_aloadn gL1241_0) ?_
        refine jx_ar (pc' := 268) (st' := [.int (i32 (0)), .ref 66, .int (i32 (one)), .ref 86]) rfl rfl rfl rfl ?_
        refine jx_vr (pc' := 271) (as := [.int (i32 (0))]) (st := [.int (i32 (one)), .ref 86]) rfl rfl rfl rfl ⟨rfl, rfl, Nat.le_of_ble_eq_true rfl⟩ rfl rfl (c_readReference (dd := d) (hd := by omega) (hW := hW1291) (ch := 0) (ln := ln) (e_ln := show G1287 9 = ln from ((hF1292.1 9 rfl).trans ((hF1234.1 9 rfl).trans (fx_9)))) (le := le) (e_le := show A1288 4 (ln).toNat = le from (congrFun ((hF1292.2 4 rfl).trans (((congrFun eA1283 4).trans (uA_ne (by decide))).trans ((hF1234.2 4 rfl).trans (hFx.2 4 rfl)))) _).trans (e_le)) (at0 := at2_1289) (e_at0 := show G1287 10 = at2_1289 from (e1293)) (fk := fk1) (e_fk := show G1287 16 = fk1 from ((hF1292.1 16 rfl).trans ((hF1234.1 16 rfl).trans (ex_fk1)))) (op0 := op1) (e_op0 := show G1287 15 = op1 from ((hF1292.1 15 rfl).trans ((hF1234.1 15 rfl).trans (ex_op1)))) (nd := nd2_1232) (e_nd := show G1287 31 = nd2_1232 from ((hF1292.1 31 rfl).trans (e1236))) (tk0 := tk2_1290) (e_tk0 := show G1287 11 = tk2_1290 from (e1294))  (h_ch := by omega)  (p_0 := by omega) (p_1 := by omega) (p_2 := by omega) (p_3 := by omega) (p_4 := by omega)) (fun o V' hq => ?_)
        obtain ⟨G1300, A1301, r1302, at2_1303, fk2_1304, op2_1305, nd2_1306, tk2_1307, rfl, rfl, hW1308, hF1309, b1310, e1311, e1312, e1313, e1314, e1315, p1316, p1317, p1318, p1319, p1320, p1321, q1322⟩ := hq
        have hF1323 := Fr_tr hF1299 hF1309 (Fr_sub (by decide)) (Fr_sub (by decide))
        have bat2_1303 : (0 : Int) ≤ at2_1303 ∧ at2_1303 ≤ 3002 := e1311 ▸ hW1308.1 10
        have bfk2_1304 : (0 : Int) ≤ fk2_1304 ∧ fk2_1304 ≤ 6 := e1312 ▸ hW1308.1 16
        have bop2_1305 : (-2147483648 : Int) ≤ op2_1305 ∧ op2_1305 ≤ 2147483647 := e1313 ▸ hW1308.1 15
        have bnd2_1306 : (0 : Int) ≤ nd2_1306 ∧ nd2_1306 ≤ 6999 := e1314 ▸ hW1308.1 31
        have ztk2_1307 := tz_b tk2_1307
        have btk2_1307 : (0 : Int) ≤ tk2_1307 ∧ tk2_1307 ≤ 5 := e1315 ▸ hW1308.1 11
        refine .inr ⟨_, rfl, ?_⟩
        rcases q1322 with ⟨a1324, a1325, a1326, a1327, a1328, a1329⟩ | ⟨a1330, a1331, a1332⟩ | ⟨a1333, a1334, a1335⟩
        · have _q : True := trivial
          exfalso
          omega
        · have _q : True := trivial
          refine jr_st (pc' := 272) (i := 19) (m := 7000) (z := one) (y := r1302) rfl (by decide) rfl (by decide) (by omega) (by omega) rfl ?_
          have hW1337 : Wk G1300 (uA A1301 19 (one).toNat (r1302)) := Wk_a hW1308 (show (-2147483648 : Int) ≤ r1302 by omega) (show r1302 ≤ (2147483647 : Int) by omega)
          have hF1338 := Fr_a (z := r1302) (k := 19) (n := (one).toNat) hF1323 (by decide)
          obtain ⟨A1336, eA1336⟩ : ∃ q, q = uA A1301 19 (one).toNat (r1302) := ⟨_, rfl⟩
          rw [← eA1336]
          rw [← eA1336] at hW1337 hF1338
          have q1339 : A1336 19 (one).toNat = r1302 := by rw [eA1336]; exact uA_eq
          refine jx_ld (pc' := 273) (l' := L1241) (st' := [.ref 66]) rfl (jl_aloadn gL1241_0) ?_
          refine jx_vr (pc' := 276) (as := []) (st := []) rfl rfl rfl rfl ⟨rfl, rfl, Nat.le_of_ble_eq_true rfl⟩ rfl rfl (c_endLine (dd := d) (hd := by omega) (hW := hW1337)  (ln := ln) (e_ln := show G1300 9 = ln from ((hF1309.1 9 rfl).trans ((hF1292.1 9 rfl).trans ((hF1234.1 9 rfl).trans (fx_9))))) (li := li) (e_li := show G1300 3 = li from ((hF1309.1 3 rfl).trans ((hF1292.1 3 rfl).trans ((hF1234.1 3 rfl).trans ((hFx.1 3 rfl).trans (e_li)))))) (fk := fk2_1304) (e_fk := show G1300 16 = fk2_1304 from (e1312)) (tk0 := tk2_1307) (e_tk0 := show G1300 11 = tk2_1307 from (e1315))    (p_0 := by omega)) (fun o V' hq => ?_)
          obtain ⟨G1340, A1341, ln2_1342, fk2_1343, rfl, rfl, hW1344, hF1345, e1346, e1347, q1348⟩ := hq
          have hF1349 := Fr_tr hF1338 hF1345 (Fr_sub (by decide)) (Fr_sub (by decide))
          have bln2_1342 : (0 : Int) ≤ ln2_1342 ∧ ln2_1342 ≤ 3000 := e1346 ▸ hW1344.1 9
          have bfk2_1343 : (0 : Int) ≤ fk2_1343 ∧ fk2_1343 ≤ 6 := e1347 ▸ hW1344.1 16
          refine .inl ⟨rfl, ?_⟩
          rcases q1348 with ⟨a1350, a1351, a1352, a1353, a1354⟩ | ⟨a1355, a1356⟩
          · have _q : True := trivial
            exfalso
            omega
          · have _q : True := trivial
            refine jx_ld (pc' := 277) (l' := L1241) (st' := [.int (i32 (one))]) rfl (jl_iloadn gL1241_1) ?_
            refine jx_rt (v := some (.int (i32 (one)))) rfl rfl rfl rfl rfl rfl ?_
            exact ⟨_, _, _, at2_1303, fk2_1343, nd2_1306, ln2_1342, rfl, rfl, hW1344, hF1349, by omega, ((hF1345.1 10 rfl).trans (e1311)), (e1347), ((hF1345.1 31 rfl).trans (e1314)), (e1346), by omega, by omega, by omega, by omega, by omega, by first | exact Or.inl (⟨by omega, by omega, by omega⟩) | exact Or.inr ((⟨by omega, by omega, by omega⟩))⟩
        · have _q : True := trivial
          refine jr_st (pc' := 272) (i := 19) (m := 7000) (z := one) (y := r1302) rfl (by decide) rfl (by decide) (by omega) (by omega) rfl ?_
          have hW1358 : Wk G1300 (uA A1301 19 (one).toNat (r1302)) := Wk_a hW1308 (show (-2147483648 : Int) ≤ r1302 by omega) (show r1302 ≤ (2147483647 : Int) by omega)
          have hF1359 := Fr_a (z := r1302) (k := 19) (n := (one).toNat) hF1323 (by decide)
          obtain ⟨A1357, eA1357⟩ : ∃ q, q = uA A1301 19 (one).toNat (r1302) := ⟨_, rfl⟩
          rw [← eA1357]
          rw [← eA1357] at hW1358 hF1359
          have q1360 : A1357 19 (one).toNat = r1302 := by rw [eA1357]; exact uA_eq
          refine jx_ld (pc' := 273) (l' := L1241) (st' := [.ref 66]) rfl (jl_aloadn gL1241_0) ?_
          refine jx_vr (pc' := 276) (as := []) (st := []) rfl rfl rfl rfl ⟨rfl, rfl, Nat.le_of_ble_eq_true rfl⟩ rfl rfl (c_endLine (dd := d) (hd := by omega) (hW := hW1358)  (ln := ln) (e_ln := show G1300 9 = ln from ((hF1309.1 9 rfl).trans ((hF1292.1 9 rfl).trans ((hF1234.1 9 rfl).trans (fx_9))))) (li := li) (e_li := show G1300 3 = li from ((hF1309.1 3 rfl).trans ((hF1292.1 3 rfl).trans ((hF1234.1 3 rfl).trans ((hFx.1 3 rfl).trans (e_li)))))) (fk := fk2_1304) (e_fk := show G1300 16 = fk2_1304 from (e1312)) (tk0 := tk2_1307) (e_tk0 := show G1300 11 = tk2_1307 from (e1315))    (p_0 := by omega)) (fun o V' hq => ?_)
          obtain ⟨G1361, A1362, ln2_1363, fk2_1364, rfl, rfl, hW1365, hF1366, e1367, e1368, q1369⟩ := hq
          have hF1370 := Fr_tr hF1359 hF1366 (Fr_sub (by decide)) (Fr_sub (by decide))
          have bln2_1363 : (0 : Int) ≤ ln2_1363 ∧ ln2_1363 ≤ 3000 := e1367 ▸ hW1365.1 9
          have bfk2_1364 : (0 : Int) ≤ fk2_1364 ∧ fk2_1364 ≤ 6 := e1368 ▸ hW1365.1 16
          refine .inl ⟨rfl, ?_⟩
          rcases q1369 with ⟨a1371, a1372, a1373, a1374, a1375⟩ | ⟨a1376, a1377⟩
          · have _q : True := trivial
            refine jx_ld (pc' := 277) (l' := L1241) (st' := [.int (i32 (one))]) rfl (jl_iloadn gL1241_1) ?_
            refine jx_rt (v := some (.int (i32 (one)))) rfl rfl rfl rfl rfl rfl ?_
            exact ⟨_, _, _, at2_1303, fk2_1364, nd2_1306, ln2_1363, rfl, rfl, hW1365, hF1370, by omega, ((hF1366.1 10 rfl).trans (e1311)), (e1368), ((hF1366.1 31 rfl).trans (e1314)), (e1367), by omega, by omega, by omega, by omega, by omega, by first | exact Or.inl (⟨by omega, by omega, by omega⟩) | exact Or.inr ((⟨by omega, by omega, by omega⟩))⟩
          · have _q : True := trivial
            refine jx_ld (pc' := 277) (l' := L1241) (st' := [.int (i32 (one))]) rfl (jl_iloadn gL1241_1) ?_
            refine jx_rt (v := some (.int (i32 (one)))) rfl rfl rfl rfl rfl rfl ?_
            exact ⟨_, _, _, at2_1303, fk2_1364, nd2_1306, ln2_1363, rfl, rfl, hW1365, hF1370, by omega, ((hF1366.1 10 rfl).trans (e1311)), (e1368), ((hF1366.1 31 rfl).trans (e1314)), (e1367), by omega, by omega, by omega, by omega, by omega, by first | exact Or.inl (⟨by omega, by omega, by omega⟩) | exact Or.inr ((⟨by omega, by omega, by omega⟩))⟩
  have at_157 : ∀ (L : jL) (Gx : Nat → Int) (Ax : Nat → Nat → Int) (one pl s ix row ch kd at1 tk1 fk1 nd1 op1 : Int), jGet L 0 = some (.ref 66) → jGet L 1 = some (.int (i32 one)) → jGet L 3 = some (.int (i32 pl)) → jGet L 4 = some (.int (i32 s)) → jGet L 5 = some (.int (i32 ix)) → jGet L 6 = some (.int (i32 row)) → jGet L 7 = some (.int (i32 ch)) → jGet L 8 = some (.int (i32 kd)) → Wk Gx Ax → Fr [9, 10, 11, 12, 13, 14, 15, 16, 17, 18, 31] [15, 16, 17, 18, 19, 20, 21, 22, 24, 28] G A Gx Ax → Gx 10 = at1 → Gx 11 = tk1 → Gx 16 = fk1 → Gx 31 = nd1 → Gx 15 = op1 → Gx 9 = ln → ((-2147483648 : Int) ≤ one ∧ one ≤ 2147483647) → ((-2147483648 : Int) ≤ pl ∧ pl ≤ 2147483647) → ((-2147483648 : Int) ≤ s ∧ s ≤ 2147483647) → ((-2147483648 : Int) ≤ ix ∧ ix ≤ 2147483647) → ((-2147483648 : Int) ≤ row ∧ row ≤ 2147483647) → ((-2147483648 : Int) ≤ ch ∧ ch ≤ 2147483647) → ((-2147483648 : Int) ≤ kd ∧ kd ≤ 2147483647) → (at0 ≤ at1) → (at1 ≤ le) → (nd ≤ nd1) → (op1 = op0) → (0 ≤ one ∧ one ≤ 6998 ∧ one ≤ nd1) → (fk1 = 0) → (nd1 - nd ≤ (2 * at1 - tz tk1) - (2 * at0 - tz tk0)) → (-3000 ≤ pl ∧ pl ≤ 3002) → (0 ≤ row ∧ row ≤ 1) → (0 ≤ ch ∧ ch ≤ 1) → (ch = 0 ∨ tz tk1 = 1) → wj X d jm303 (157, L, [], rV c0 c1 Gx Ax T) (fun o V' => ∃ (G' : Nat → Int) (A' : Nat → Nat → Int) (r : Int) (at2 : Int) (fk2 : Int) (nd2 : Int) (ln2 : Int), V' = rV c0 c1 G' A' T ∧ o = .inl (some (.int (i32 r))) ∧ Wk G' A' ∧ Fr [9, 10, 11, 12, 13, 14, 15, 16, 17, 18, 31] [15, 16, 17, 18, 19, 20, 21, 22, 24, 28] G A G' A' ∧ ((-2147483648 : Int) ≤ r ∧ r ≤ 2147483647) ∧ G' 10 = at2 ∧ G' 16 = fk2 ∧ G' 31 = nd2 ∧ G' 9 = ln2 ∧ (at0 ≤ at2) ∧ (at2 ≤ le) ∧ (nd ≤ nd2) ∧ (0 ≤ r) ∧ (r ≤ nd2) ∧ (((1 ≤ fk2) ∧ (ln2 = ln) ∧ (nd2 - nd ≤ 2 * at2 - 2 * at0 + 12)) ∨ ((fk2 = 0) ∧ (ln2 = ln + 1) ∧ (nd2 - nd ≤ 2 * at2 - (2 * at0 - tz tk0) + 0)))) := by
    intro L Gx Ax one pl s ix row ch kd at1 tk1 fk1 nd1 op1 gL_0 gL_1 gL_3 gL_4 gL_5 gL_6 gL_7 gL_8 hWx hFx ex_at1 ex_tk1 ex_fk1 ex_nd1 ex_op1 fx_9 rx_one rx_pl rx_s rx_ix rx_row rx_ch rx_kd iv_0 iv_1 iv_2 iv_3 iv_4 iv_5 iv_6 iv_7 iv_8 iv_9 iv_10
    have b_at1 : (0 : Int) ≤ at1 ∧ at1 ≤ 3002 := ex_at1 ▸ hWx.1 10
    have z_tk1 := tz_f tk1
    have b_tk1 : (0 : Int) ≤ tk1 ∧ tk1 ≤ 5 := ex_tk1 ▸ hWx.1 11
    have b_fk1 : (0 : Int) ≤ fk1 ∧ fk1 ≤ 6 := ex_fk1 ▸ hWx.1 16
    have b_nd1 : (0 : Int) ≤ nd1 ∧ nd1 ≤ 6999 := ex_nd1 ▸ hWx.1 31
    have b_op1 : (-2147483648 : Int) ≤ op1 ∧ op1 ≤ 2147483647 := ex_op1 ▸ hWx.1 15
    refine jx_ld (pc' := 159) (l' := L) (st' := [.int (i32 (ch))]) rfl (jl_iload gL_7) ?_
    refine jx_if_eq (pc' := 162) (tg := 189) rfl rfl rfl (by omega) (by omega) (fun h1378 => ?_) (fun h1378 => ?_)
    · have _q := h1378
      refine jx_ld (pc' := 191) (l' := L) (st' := [.int (i32 (row))]) rfl (jl_iload gL_6) ?_
      refine jx_if_eq (pc' := 194) (tg := 202) rfl rfl rfl (by omega) (by omega) (fun h1379 => ?_) (fun h1379 => ?_)
      · have _q := h1379
        refine jx_ld (pc' := 204) (l' := L) (st' := [.int (i32 (kd))]) rfl (jl_iload gL_8) ?_
        refine jx_st (pc' := 207) (as := [.int (i32 (kd))]) (st := []) rfl rfl ⟨rfl, Nat.le_of_ble_eq_true rfl⟩ rfl rfl rfl (c_isValue (dd := d) (hd := by omega) (k := kd)   (h_k := by omega)  ) (fun o V' hq => ?_)
        obtain ⟨r1380, rfl, rfl, b1381, q1382⟩ := hq
        refine .inr ⟨_, rfl, ?_⟩
        rcases q1382 with rfl | rfl
        · have _q : True := trivial
          refine jx_ld (pc' := 209) (l' := jSto1 L 9 (.int (i32 (1)))) (st' := []) rfl rfl ?_
          obtain ⟨L1383, eL1383⟩ : ∃ q, q = jSto1 L 9 (.int (i32 (1))) := ⟨_, rfl⟩
          rw [← eL1383]
          have gL1383_0 : jGet L1383 0 = some (.ref 66) := eL1383 ▸ jg_ne (by decide) gL_0 rfl
          have gL1383_1 : jGet L1383 1 = some (.int (i32 (one))) := eL1383 ▸ jg_ne (by decide) gL_1 rfl
          have gL1383_3 : jGet L1383 3 = some (.int (i32 (pl))) := eL1383 ▸ jg_ne (by decide) gL_3 rfl
          have gL1383_4 : jGet L1383 4 = some (.int (i32 (s))) := eL1383 ▸ jg_ne (by decide) gL_4 rfl
          have gL1383_5 : jGet L1383 5 = some (.int (i32 (ix))) := eL1383 ▸ jg_ne (by decide) gL_5 rfl
          have gL1383_6 : jGet L1383 6 = some (.int (i32 (row))) := eL1383 ▸ jg_ne (by decide) gL_6 rfl
          have gL1383_7 : jGet L1383 7 = some (.int (i32 (ch))) := eL1383 ▸ jg_ne (by decide) gL_7 rfl
          have gL1383_8 : jGet L1383 8 = some (.int (i32 (kd))) := eL1383 ▸ jg_ne (by decide) gL_8 rfl
          have gL1383_9 : jGet L1383 9 = some (.int (i32 (1))) := eL1383 ▸ jg_eq
          refine jx_ld (pc' := 211) (l' := L1383) (st' := [.int (i32 (1))]) rfl (jl_iload gL1383_9) ?_
          refine jx_if_ne (pc' := 214) (tg := 222) rfl rfl rfl (by omega) (by omega) (fun h1384 => ?_) (fun h1384 => ?_)
          · have _q := h1384
            have z1385 := tz_f (tk1)
            exact at_222 L1383 Gx Ax (one) (s) (ix) (row) (ch) (at1) (tk1) (fk1) (nd1) (op1) gL1383_0 gL1383_1 gL1383_4 gL1383_5 gL1383_6 gL1383_7 hWx hFx ((ex_at1)) ((ex_tk1)) ((ex_fk1)) ((ex_nd1)) ((ex_op1)) ((fx_9)) (by omega) (by omega) (by omega) (by omega) (by omega) (by omega) (by omega) (by omega) (by omega) (by omega) (by omega) (by omega) (by omega) (by omega) (by omega)
          · have _q := h1384
            exact absurd h1384 (by omega)
        · have _q : True := trivial
          refine jx_ld (pc' := 209) (l' := jSto1 L 9 (.int (i32 (0)))) (st' := []) rfl rfl ?_
          obtain ⟨L1386, eL1386⟩ : ∃ q, q = jSto1 L 9 (.int (i32 (0))) := ⟨_, rfl⟩
          rw [← eL1386]
          have gL1386_0 : jGet L1386 0 = some (.ref 66) := eL1386 ▸ jg_ne (by decide) gL_0 rfl
          have gL1386_1 : jGet L1386 1 = some (.int (i32 (one))) := eL1386 ▸ jg_ne (by decide) gL_1 rfl
          have gL1386_3 : jGet L1386 3 = some (.int (i32 (pl))) := eL1386 ▸ jg_ne (by decide) gL_3 rfl
          have gL1386_4 : jGet L1386 4 = some (.int (i32 (s))) := eL1386 ▸ jg_ne (by decide) gL_4 rfl
          have gL1386_5 : jGet L1386 5 = some (.int (i32 (ix))) := eL1386 ▸ jg_ne (by decide) gL_5 rfl
          have gL1386_6 : jGet L1386 6 = some (.int (i32 (row))) := eL1386 ▸ jg_ne (by decide) gL_6 rfl
          have gL1386_7 : jGet L1386 7 = some (.int (i32 (ch))) := eL1386 ▸ jg_ne (by decide) gL_7 rfl
          have gL1386_8 : jGet L1386 8 = some (.int (i32 (kd))) := eL1386 ▸ jg_ne (by decide) gL_8 rfl
          have gL1386_9 : jGet L1386 9 = some (.int (i32 (0))) := eL1386 ▸ jg_eq
          refine jx_ld (pc' := 211) (l' := L1386) (st' := [.int (i32 (0))]) rfl (jl_iload gL1386_9) ?_
          refine jx_if_ne (pc' := 214) (tg := 222) rfl rfl rfl (by omega) (by omega) (fun h1387 => ?_) (fun h1387 => ?_)
          · have _q := h1387
            exact absurd h1387 (by omega)
          · have _q := h1387
            refine jx_ld (pc' := 215) (l' := L1386) (st' := [.ref 66]) rfl (jl_aloadn gL1386_0) ?_
            refine jx_ar (pc' := 216) (st' := [.int (i32 (4)), .ref 66]) rfl rfl rfl rfl ?_
            refine jx_ld (pc' := 217) (l' := L1386) (st' := [.int (i32 (pl)), .int (i32 (4)), .ref 66]) rfl (jl_iloadn gL1386_3) ?_
            refine jx_vr (pc' := 220) (as := [.int (i32 (4)), .int (i32 (pl))]) (st := []) rfl rfl rfl rfl ⟨rfl, rfl, Nat.le_of_ble_eq_true rfl⟩ rfl rfl (c_fail (dd := d) (hd := by omega) (hW := hWx) (kind := 4) (place := pl) (fk := fk1) (e_fk := show Gx 16 = fk1 from (ex_fk1))  (h_kind := by omega) (h_place := by omega)  (p_0 := by omega) (p_1 := by omega)) (fun o V' hq => ?_)
            obtain ⟨G1388, A1389, fk2_1390, rfl, rfl, hW1391, hF1392, e1393, p1394, -⟩ := hq
            have hF1396 := Fr_tr hFx hF1392 (Fr_sub (by decide)) (Fr_sub (by decide))
            have bfk2_1390 : (0 : Int) ≤ fk2_1390 ∧ fk2_1390 ≤ 6 := e1393 ▸ hW1391.1 16
            refine .inl ⟨rfl, ?_⟩
            refine jx_ar (pc' := 221) (st' := [.int (i32 (0))]) rfl rfl rfl rfl ?_
            refine jx_rt (v := some (.int (i32 (0)))) rfl rfl rfl rfl rfl rfl ?_
            exact ⟨_, _, _, at1, fk2_1390, nd1, ln, rfl, rfl, hW1391, hF1396, by omega, ((hF1392.1 10 rfl).trans (ex_at1)), (e1393), ((hF1392.1 31 rfl).trans (ex_nd1)), ((hF1392.1 9 rfl).trans (fx_9)), by omega, by omega, by omega, by omega, by omega, by first | exact Or.inl (⟨by omega, by omega, by omega⟩) | exact Or.inr ((⟨by omega, by omega, by omega⟩))⟩
      · have _q := h1379
        refine jx_ld (pc' := 196) (l' := L) (st' := [.int (i32 (kd))]) rfl (jl_iload gL_8) ?_
        refine jx_st (pc' := 199) (as := [.int (i32 (kd))]) (st := []) rfl rfl ⟨rfl, Nat.le_of_ble_eq_true rfl⟩ rfl rfl rfl (c_isArray (dd := d) (hd := by omega) (k := kd)   (h_k := by omega)  ) (fun o V' hq => ?_)
        obtain ⟨r1397, rfl, rfl, b1398, q1399⟩ := hq
        refine .inr ⟨_, rfl, ?_⟩
        rcases q1399 with rfl | rfl
        · have _q : True := trivial
          refine jx_go (tg := 207) rfl rfl ?_
          refine jx_ld (pc' := 209) (l' := jSto1 L 9 (.int (i32 (1)))) (st' := []) rfl rfl ?_
          obtain ⟨L1400, eL1400⟩ : ∃ q, q = jSto1 L 9 (.int (i32 (1))) := ⟨_, rfl⟩
          rw [← eL1400]
          have gL1400_0 : jGet L1400 0 = some (.ref 66) := eL1400 ▸ jg_ne (by decide) gL_0 rfl
          have gL1400_1 : jGet L1400 1 = some (.int (i32 (one))) := eL1400 ▸ jg_ne (by decide) gL_1 rfl
          have gL1400_3 : jGet L1400 3 = some (.int (i32 (pl))) := eL1400 ▸ jg_ne (by decide) gL_3 rfl
          have gL1400_4 : jGet L1400 4 = some (.int (i32 (s))) := eL1400 ▸ jg_ne (by decide) gL_4 rfl
          have gL1400_5 : jGet L1400 5 = some (.int (i32 (ix))) := eL1400 ▸ jg_ne (by decide) gL_5 rfl
          have gL1400_6 : jGet L1400 6 = some (.int (i32 (row))) := eL1400 ▸ jg_ne (by decide) gL_6 rfl
          have gL1400_7 : jGet L1400 7 = some (.int (i32 (ch))) := eL1400 ▸ jg_ne (by decide) gL_7 rfl
          have gL1400_8 : jGet L1400 8 = some (.int (i32 (kd))) := eL1400 ▸ jg_ne (by decide) gL_8 rfl
          have gL1400_9 : jGet L1400 9 = some (.int (i32 (1))) := eL1400 ▸ jg_eq
          refine jx_ld (pc' := 211) (l' := L1400) (st' := [.int (i32 (1))]) rfl (jl_iload gL1400_9) ?_
          refine jx_if_ne (pc' := 214) (tg := 222) rfl rfl rfl (by omega) (by omega) (fun h1401 => ?_) (fun h1401 => ?_)
          · have _q := h1401
            have z1402 := tz_f (tk1)
            exact at_222 L1400 Gx Ax (one) (s) (ix) (row) (ch) (at1) (tk1) (fk1) (nd1) (op1) gL1400_0 gL1400_1 gL1400_4 gL1400_5 gL1400_6 gL1400_7 hWx hFx ((ex_at1)) ((ex_tk1)) ((ex_fk1)) ((ex_nd1)) ((ex_op1)) ((fx_9)) (by omega) (by omega) (by omega) (by omega) (by omega) (by omega) (by omega) (by omega) (by omega) (by omega) (by omega) (by omega) (by omega) (by omega) (by omega)
          · have _q := h1401
            exact absurd h1401 (by omega)
        · have _q : True := trivial
          refine jx_go (tg := 207) rfl rfl ?_
          refine jx_ld (pc' := 209) (l' := jSto1 L 9 (.int (i32 (0)))) (st' := []) rfl rfl ?_
          obtain ⟨L1403, eL1403⟩ : ∃ q, q = jSto1 L 9 (.int (i32 (0))) := ⟨_, rfl⟩
          rw [← eL1403]
          have gL1403_0 : jGet L1403 0 = some (.ref 66) := eL1403 ▸ jg_ne (by decide) gL_0 rfl
          have gL1403_1 : jGet L1403 1 = some (.int (i32 (one))) := eL1403 ▸ jg_ne (by decide) gL_1 rfl
          have gL1403_3 : jGet L1403 3 = some (.int (i32 (pl))) := eL1403 ▸ jg_ne (by decide) gL_3 rfl
          have gL1403_4 : jGet L1403 4 = some (.int (i32 (s))) := eL1403 ▸ jg_ne (by decide) gL_4 rfl
          have gL1403_5 : jGet L1403 5 = some (.int (i32 (ix))) := eL1403 ▸ jg_ne (by decide) gL_5 rfl
          have gL1403_6 : jGet L1403 6 = some (.int (i32 (row))) := eL1403 ▸ jg_ne (by decide) gL_6 rfl
          have gL1403_7 : jGet L1403 7 = some (.int (i32 (ch))) := eL1403 ▸ jg_ne (by decide) gL_7 rfl
          have gL1403_8 : jGet L1403 8 = some (.int (i32 (kd))) := eL1403 ▸ jg_ne (by decide) gL_8 rfl
          have gL1403_9 : jGet L1403 9 = some (.int (i32 (0))) := eL1403 ▸ jg_eq
          refine jx_ld (pc' := 211) (l' := L1403) (st' := [.int (i32 (0))]) rfl (jl_iload gL1403_9) ?_
          refine jx_if_ne (pc' := 214) (tg := 222) rfl rfl rfl (by omega) (by omega) (fun h1404 => ?_) (fun h1404 => ?_)
          · have _q := h1404
            exact absurd h1404 (by omega)
          · have _q := h1404
            refine jx_ld (pc' := 215) (l' := L1403) (st' := [.ref 66]) rfl (jl_aloadn gL1403_0) ?_
            refine jx_ar (pc' := 216) (st' := [.int (i32 (4)), .ref 66]) rfl rfl rfl rfl ?_
            refine jx_ld (pc' := 217) (l' := L1403) (st' := [.int (i32 (pl)), .int (i32 (4)), .ref 66]) rfl (jl_iloadn gL1403_3) ?_
            refine jx_vr (pc' := 220) (as := [.int (i32 (4)), .int (i32 (pl))]) (st := []) rfl rfl rfl rfl ⟨rfl, rfl, Nat.le_of_ble_eq_true rfl⟩ rfl rfl (c_fail (dd := d) (hd := by omega) (hW := hWx) (kind := 4) (place := pl) (fk := fk1) (e_fk := show Gx 16 = fk1 from (ex_fk1))  (h_kind := by omega) (h_place := by omega)  (p_0 := by omega) (p_1 := by omega)) (fun o V' hq => ?_)
            obtain ⟨G1405, A1406, fk2_1407, rfl, rfl, hW1408, hF1409, e1410, p1411, -⟩ := hq
            have hF1413 := Fr_tr hFx hF1409 (Fr_sub (by decide)) (Fr_sub (by decide))
            have bfk2_1407 : (0 : Int) ≤ fk2_1407 ∧ fk2_1407 ≤ 6 := e1410 ▸ hW1408.1 16
            refine .inl ⟨rfl, ?_⟩
            refine jx_ar (pc' := 221) (st' := [.int (i32 (0))]) rfl rfl rfl rfl ?_
            refine jx_rt (v := some (.int (i32 (0)))) rfl rfl rfl rfl rfl rfl ?_
            exact ⟨_, _, _, at1, fk2_1407, nd1, ln, rfl, rfl, hW1408, hF1413, by omega, ((hF1409.1 10 rfl).trans (ex_at1)), (e1410), ((hF1409.1 31 rfl).trans (ex_nd1)), ((hF1409.1 9 rfl).trans (fx_9)), by omega, by omega, by omega, by omega, by omega, by first | exact Or.inl (⟨by omega, by omega, by omega⟩) | exact Or.inr ((⟨by omega, by omega, by omega⟩))⟩
    · have _q := h1378
      refine jx_ld (pc' := 164) (l' := L) (st' := [.int (i32 (row))]) rfl (jl_iload gL_6) ?_
      refine jx_if_eq (pc' := 167) (tg := 181) rfl rfl rfl (by omega) (by omega) (fun h1414 => ?_) (fun h1414 => ?_)
      · have _q := h1414
        refine jx_ld (pc' := 183) (l' := L) (st' := [.int (i32 (kd))]) rfl (jl_iload gL_8) ?_
        refine jx_st (pc' := 186) (as := [.int (i32 (kd))]) (st := []) rfl rfl ⟨rfl, Nat.le_of_ble_eq_true rfl⟩ rfl rfl rfl (c_isChannel (dd := d) (hd := by omega) (k := kd)   (h_k := by omega)  ) (fun o V' hq => ?_)
        obtain ⟨r1415, rfl, rfl, b1416, q1417⟩ := hq
        refine .inr ⟨_, rfl, ?_⟩
        rcases q1417 with rfl | rfl
        · have _q : True := trivial
          refine jx_go (tg := 207) rfl rfl ?_
          refine jx_ld (pc' := 209) (l' := jSto1 L 9 (.int (i32 (1)))) (st' := []) rfl rfl ?_
          obtain ⟨L1418, eL1418⟩ : ∃ q, q = jSto1 L 9 (.int (i32 (1))) := ⟨_, rfl⟩
          rw [← eL1418]
          have gL1418_0 : jGet L1418 0 = some (.ref 66) := eL1418 ▸ jg_ne (by decide) gL_0 rfl
          have gL1418_1 : jGet L1418 1 = some (.int (i32 (one))) := eL1418 ▸ jg_ne (by decide) gL_1 rfl
          have gL1418_3 : jGet L1418 3 = some (.int (i32 (pl))) := eL1418 ▸ jg_ne (by decide) gL_3 rfl
          have gL1418_4 : jGet L1418 4 = some (.int (i32 (s))) := eL1418 ▸ jg_ne (by decide) gL_4 rfl
          have gL1418_5 : jGet L1418 5 = some (.int (i32 (ix))) := eL1418 ▸ jg_ne (by decide) gL_5 rfl
          have gL1418_6 : jGet L1418 6 = some (.int (i32 (row))) := eL1418 ▸ jg_ne (by decide) gL_6 rfl
          have gL1418_7 : jGet L1418 7 = some (.int (i32 (ch))) := eL1418 ▸ jg_ne (by decide) gL_7 rfl
          have gL1418_8 : jGet L1418 8 = some (.int (i32 (kd))) := eL1418 ▸ jg_ne (by decide) gL_8 rfl
          have gL1418_9 : jGet L1418 9 = some (.int (i32 (1))) := eL1418 ▸ jg_eq
          refine jx_ld (pc' := 211) (l' := L1418) (st' := [.int (i32 (1))]) rfl (jl_iload gL1418_9) ?_
          refine jx_if_ne (pc' := 214) (tg := 222) rfl rfl rfl (by omega) (by omega) (fun h1419 => ?_) (fun h1419 => ?_)
          · have _q := h1419
            have z1420 := tz_f (tk1)
            exact at_222 L1418 Gx Ax (one) (s) (ix) (row) (ch) (at1) (tk1) (fk1) (nd1) (op1) gL1418_0 gL1418_1 gL1418_4 gL1418_5 gL1418_6 gL1418_7 hWx hFx ((ex_at1)) ((ex_tk1)) ((ex_fk1)) ((ex_nd1)) ((ex_op1)) ((fx_9)) (by omega) (by omega) (by omega) (by omega) (by omega) (by omega) (by omega) (by omega) (by omega) (by omega) (by omega) (by omega) (by omega) (by omega) (by omega)
          · have _q := h1419
            exact absurd h1419 (by omega)
        · have _q : True := trivial
          refine jx_go (tg := 207) rfl rfl ?_
          refine jx_ld (pc' := 209) (l' := jSto1 L 9 (.int (i32 (0)))) (st' := []) rfl rfl ?_
          obtain ⟨L1421, eL1421⟩ : ∃ q, q = jSto1 L 9 (.int (i32 (0))) := ⟨_, rfl⟩
          rw [← eL1421]
          have gL1421_0 : jGet L1421 0 = some (.ref 66) := eL1421 ▸ jg_ne (by decide) gL_0 rfl
          have gL1421_1 : jGet L1421 1 = some (.int (i32 (one))) := eL1421 ▸ jg_ne (by decide) gL_1 rfl
          have gL1421_3 : jGet L1421 3 = some (.int (i32 (pl))) := eL1421 ▸ jg_ne (by decide) gL_3 rfl
          have gL1421_4 : jGet L1421 4 = some (.int (i32 (s))) := eL1421 ▸ jg_ne (by decide) gL_4 rfl
          have gL1421_5 : jGet L1421 5 = some (.int (i32 (ix))) := eL1421 ▸ jg_ne (by decide) gL_5 rfl
          have gL1421_6 : jGet L1421 6 = some (.int (i32 (row))) := eL1421 ▸ jg_ne (by decide) gL_6 rfl
          have gL1421_7 : jGet L1421 7 = some (.int (i32 (ch))) := eL1421 ▸ jg_ne (by decide) gL_7 rfl
          have gL1421_8 : jGet L1421 8 = some (.int (i32 (kd))) := eL1421 ▸ jg_ne (by decide) gL_8 rfl
          have gL1421_9 : jGet L1421 9 = some (.int (i32 (0))) := eL1421 ▸ jg_eq
          refine jx_ld (pc' := 211) (l' := L1421) (st' := [.int (i32 (0))]) rfl (jl_iload gL1421_9) ?_
          refine jx_if_ne (pc' := 214) (tg := 222) rfl rfl rfl (by omega) (by omega) (fun h1422 => ?_) (fun h1422 => ?_)
          · have _q := h1422
            exact absurd h1422 (by omega)
          · have _q := h1422
            refine jx_ld (pc' := 215) (l' := L1421) (st' := [.ref 66]) rfl (jl_aloadn gL1421_0) ?_
            refine jx_ar (pc' := 216) (st' := [.int (i32 (4)), .ref 66]) rfl rfl rfl rfl ?_
            refine jx_ld (pc' := 217) (l' := L1421) (st' := [.int (i32 (pl)), .int (i32 (4)), .ref 66]) rfl (jl_iloadn gL1421_3) ?_
            refine jx_vr (pc' := 220) (as := [.int (i32 (4)), .int (i32 (pl))]) (st := []) rfl rfl rfl rfl ⟨rfl, rfl, Nat.le_of_ble_eq_true rfl⟩ rfl rfl (c_fail (dd := d) (hd := by omega) (hW := hWx) (kind := 4) (place := pl) (fk := fk1) (e_fk := show Gx 16 = fk1 from (ex_fk1))  (h_kind := by omega) (h_place := by omega)  (p_0 := by omega) (p_1 := by omega)) (fun o V' hq => ?_)
            obtain ⟨G1423, A1424, fk2_1425, rfl, rfl, hW1426, hF1427, e1428, p1429, -⟩ := hq
            have hF1431 := Fr_tr hFx hF1427 (Fr_sub (by decide)) (Fr_sub (by decide))
            have bfk2_1425 : (0 : Int) ≤ fk2_1425 ∧ fk2_1425 ≤ 6 := e1428 ▸ hW1426.1 16
            refine .inl ⟨rfl, ?_⟩
            refine jx_ar (pc' := 221) (st' := [.int (i32 (0))]) rfl rfl rfl rfl ?_
            refine jx_rt (v := some (.int (i32 (0)))) rfl rfl rfl rfl rfl rfl ?_
            exact ⟨_, _, _, at1, fk2_1425, nd1, ln, rfl, rfl, hW1426, hF1431, by omega, ((hF1427.1 10 rfl).trans (ex_at1)), (e1428), ((hF1427.1 31 rfl).trans (ex_nd1)), ((hF1427.1 9 rfl).trans (fx_9)), by omega, by omega, by omega, by omega, by omega, by first | exact Or.inl (⟨by omega, by omega, by omega⟩) | exact Or.inr ((⟨by omega, by omega, by omega⟩))⟩
      · have _q := h1414
        refine jx_ld (pc' := 169) (l' := L) (st' := [.int (i32 (kd))]) rfl (jl_iload gL_8) ?_
        refine jx_ar (pc' := 170) (st' := [.int (i32 (4)), .int (i32 (kd))]) rfl rfl rfl rfl ?_
        refine jx_icmp_ne (pc' := 173) (tg := 177) rfl rfl rfl (by omega) (by omega) (by omega) (by omega) (fun h1432 => ?_) (fun h1432 => ?_)
        · have _q := h1432
          refine jx_ar (pc' := 178) (st' := [.int (i32 (0))]) rfl rfl rfl rfl ?_
          refine jx_go (tg := 207) rfl rfl ?_
          refine jx_ld (pc' := 209) (l' := jSto1 L 9 (.int (i32 (0)))) (st' := []) rfl rfl ?_
          obtain ⟨L1433, eL1433⟩ : ∃ q, q = jSto1 L 9 (.int (i32 (0))) := ⟨_, rfl⟩
          rw [← eL1433]
          have gL1433_0 : jGet L1433 0 = some (.ref 66) := eL1433 ▸ jg_ne (by decide) gL_0 rfl
          have gL1433_1 : jGet L1433 1 = some (.int (i32 (one))) := eL1433 ▸ jg_ne (by decide) gL_1 rfl
          have gL1433_3 : jGet L1433 3 = some (.int (i32 (pl))) := eL1433 ▸ jg_ne (by decide) gL_3 rfl
          have gL1433_4 : jGet L1433 4 = some (.int (i32 (s))) := eL1433 ▸ jg_ne (by decide) gL_4 rfl
          have gL1433_5 : jGet L1433 5 = some (.int (i32 (ix))) := eL1433 ▸ jg_ne (by decide) gL_5 rfl
          have gL1433_6 : jGet L1433 6 = some (.int (i32 (row))) := eL1433 ▸ jg_ne (by decide) gL_6 rfl
          have gL1433_7 : jGet L1433 7 = some (.int (i32 (ch))) := eL1433 ▸ jg_ne (by decide) gL_7 rfl
          have gL1433_8 : jGet L1433 8 = some (.int (i32 (kd))) := eL1433 ▸ jg_ne (by decide) gL_8 rfl
          have gL1433_9 : jGet L1433 9 = some (.int (i32 (0))) := eL1433 ▸ jg_eq
          refine jx_ld (pc' := 211) (l' := L1433) (st' := [.int (i32 (0))]) rfl (jl_iload gL1433_9) ?_
          refine jx_if_ne (pc' := 214) (tg := 222) rfl rfl rfl (by omega) (by omega) (fun h1434 => ?_) (fun h1434 => ?_)
          · have _q := h1434
            exact absurd h1434 (by omega)
          · have _q := h1434
            refine jx_ld (pc' := 215) (l' := L1433) (st' := [.ref 66]) rfl (jl_aloadn gL1433_0) ?_
            refine jx_ar (pc' := 216) (st' := [.int (i32 (4)), .ref 66]) rfl rfl rfl rfl ?_
            refine jx_ld (pc' := 217) (l' := L1433) (st' := [.int (i32 (pl)), .int (i32 (4)), .ref 66]) rfl (jl_iloadn gL1433_3) ?_
            refine jx_vr (pc' := 220) (as := [.int (i32 (4)), .int (i32 (pl))]) (st := []) rfl rfl rfl rfl ⟨rfl, rfl, Nat.le_of_ble_eq_true rfl⟩ rfl rfl (c_fail (dd := d) (hd := by omega) (hW := hWx) (kind := 4) (place := pl) (fk := fk1) (e_fk := show Gx 16 = fk1 from (ex_fk1))  (h_kind := by omega) (h_place := by omega)  (p_0 := by omega) (p_1 := by omega)) (fun o V' hq => ?_)
            obtain ⟨G1435, A1436, fk2_1437, rfl, rfl, hW1438, hF1439, e1440, p1441, -⟩ := hq
            have hF1443 := Fr_tr hFx hF1439 (Fr_sub (by decide)) (Fr_sub (by decide))
            have bfk2_1437 : (0 : Int) ≤ fk2_1437 ∧ fk2_1437 ≤ 6 := e1440 ▸ hW1438.1 16
            refine .inl ⟨rfl, ?_⟩
            refine jx_ar (pc' := 221) (st' := [.int (i32 (0))]) rfl rfl rfl rfl ?_
            refine jx_rt (v := some (.int (i32 (0)))) rfl rfl rfl rfl rfl rfl ?_
            exact ⟨_, _, _, at1, fk2_1437, nd1, ln, rfl, rfl, hW1438, hF1443, by omega, ((hF1439.1 10 rfl).trans (ex_at1)), (e1440), ((hF1439.1 31 rfl).trans (ex_nd1)), ((hF1439.1 9 rfl).trans (fx_9)), by omega, by omega, by omega, by omega, by omega, by first | exact Or.inl (⟨by omega, by omega, by omega⟩) | exact Or.inr ((⟨by omega, by omega, by omega⟩))⟩
        · have _q := h1432
          refine jx_ar (pc' := 174) (st' := [.int (i32 (1))]) rfl rfl rfl rfl ?_
          refine jx_go (tg := 207) rfl rfl ?_
          refine jx_ld (pc' := 209) (l' := jSto1 L 9 (.int (i32 (1)))) (st' := []) rfl rfl ?_
          obtain ⟨L1444, eL1444⟩ : ∃ q, q = jSto1 L 9 (.int (i32 (1))) := ⟨_, rfl⟩
          rw [← eL1444]
          have gL1444_0 : jGet L1444 0 = some (.ref 66) := eL1444 ▸ jg_ne (by decide) gL_0 rfl
          have gL1444_1 : jGet L1444 1 = some (.int (i32 (one))) := eL1444 ▸ jg_ne (by decide) gL_1 rfl
          have gL1444_3 : jGet L1444 3 = some (.int (i32 (pl))) := eL1444 ▸ jg_ne (by decide) gL_3 rfl
          have gL1444_4 : jGet L1444 4 = some (.int (i32 (s))) := eL1444 ▸ jg_ne (by decide) gL_4 rfl
          have gL1444_5 : jGet L1444 5 = some (.int (i32 (ix))) := eL1444 ▸ jg_ne (by decide) gL_5 rfl
          have gL1444_6 : jGet L1444 6 = some (.int (i32 (row))) := eL1444 ▸ jg_ne (by decide) gL_6 rfl
          have gL1444_7 : jGet L1444 7 = some (.int (i32 (ch))) := eL1444 ▸ jg_ne (by decide) gL_7 rfl
          have gL1444_8 : jGet L1444 8 = some (.int (i32 (kd))) := eL1444 ▸ jg_ne (by decide) gL_8 rfl
          have gL1444_9 : jGet L1444 9 = some (.int (i32 (1))) := eL1444 ▸ jg_eq
          refine jx_ld (pc' := 211) (l' := L1444) (st' := [.int (i32 (1))]) rfl (jl_iload gL1444_9) ?_
          refine jx_if_ne (pc' := 214) (tg := 222) rfl rfl rfl (by omega) (by omega) (fun h1445 => ?_) (fun h1445 => ?_)
          · have _q := h1445
            have z1446 := tz_f (tk1)
            exact at_222 L1444 Gx Ax (one) (s) (ix) (row) (ch) (at1) (tk1) (fk1) (nd1) (op1) gL1444_0 gL1444_1 gL1444_4 gL1444_5 gL1444_6 gL1444_7 hWx hFx ((ex_at1)) ((ex_tk1)) ((ex_fk1)) ((ex_nd1)) ((ex_op1)) ((fx_9)) (by omega) (by omega) (by omega) (by omega) (by omega) (by omega) (by omega) (by omega) (by omega) (by omega) (by omega) (by omega) (by omega) (by omega) (by omega)
          · have _q := h1445
            exact absurd h1445 (by omega)
  have at_108 : ∀ (L : jL) (Gx : Nat → Int) (Ax : Nat → Nat → Int) (one pl s ix row at1 tk1 fk1 nd1 op1 : Int), jGet L 0 = some (.ref 66) → jGet L 1 = some (.int (i32 one)) → jGet L 3 = some (.int (i32 pl)) → jGet L 4 = some (.int (i32 s)) → jGet L 5 = some (.int (i32 ix)) → jGet L 6 = some (.int (i32 row)) → Wk Gx Ax → Fr [9, 10, 11, 12, 13, 14, 15, 16, 17, 18, 31] [15, 16, 17, 18, 19, 20, 21, 22, 24, 28] G A Gx Ax → Gx 10 = at1 → Gx 11 = tk1 → Gx 16 = fk1 → Gx 31 = nd1 → Gx 15 = op1 → Gx 9 = ln → ((-2147483648 : Int) ≤ one ∧ one ≤ 2147483647) → ((-2147483648 : Int) ≤ pl ∧ pl ≤ 2147483647) → ((-2147483648 : Int) ≤ s ∧ s ≤ 2147483647) → ((-2147483648 : Int) ≤ ix ∧ ix ≤ 2147483647) → ((-2147483648 : Int) ≤ row ∧ row ≤ 2147483647) → (at0 ≤ at1) → (at1 ≤ le) → (nd ≤ nd1) → (op1 = op0) → (0 ≤ one ∧ one ≤ 6998 ∧ one ≤ nd1) → (fk1 = 0) → (nd1 - nd ≤ (2 * at1 - tz tk1) - (2 * at0 - tz tk0)) → (0 ≤ s ∧ s ≤ 201) → (-3000 ≤ pl ∧ pl ≤ 3002) → (0 ≤ row ∧ row ≤ 1) → wj X d jm303 (108, L, [], rV c0 c1 Gx Ax T) (fun o V' => ∃ (G' : Nat → Int) (A' : Nat → Nat → Int) (r : Int) (at2 : Int) (fk2 : Int) (nd2 : Int) (ln2 : Int), V' = rV c0 c1 G' A' T ∧ o = .inl (some (.int (i32 r))) ∧ Wk G' A' ∧ Fr [9, 10, 11, 12, 13, 14, 15, 16, 17, 18, 31] [15, 16, 17, 18, 19, 20, 21, 22, 24, 28] G A G' A' ∧ ((-2147483648 : Int) ≤ r ∧ r ≤ 2147483647) ∧ G' 10 = at2 ∧ G' 16 = fk2 ∧ G' 31 = nd2 ∧ G' 9 = ln2 ∧ (at0 ≤ at2) ∧ (at2 ≤ le) ∧ (nd ≤ nd2) ∧ (0 ≤ r) ∧ (r ≤ nd2) ∧ (((1 ≤ fk2) ∧ (ln2 = ln) ∧ (nd2 - nd ≤ 2 * at2 - 2 * at0 + 12)) ∨ ((fk2 = 0) ∧ (ln2 = ln + 1) ∧ (nd2 - nd ≤ 2 * at2 - (2 * at0 - tz tk0) + 0)))) := by
    intro L Gx Ax one pl s ix row at1 tk1 fk1 nd1 op1 gL_0 gL_1 gL_3 gL_4 gL_5 gL_6 hWx hFx ex_at1 ex_tk1 ex_fk1 ex_nd1 ex_op1 fx_9 rx_one rx_pl rx_s rx_ix rx_row iv_0 iv_1 iv_2 iv_3 iv_4 iv_5 iv_6 iv_7 iv_8 iv_9
    have b_at1 : (0 : Int) ≤ at1 ∧ at1 ≤ 3002 := ex_at1 ▸ hWx.1 10
    have z_tk1 := tz_f tk1
    have b_tk1 : (0 : Int) ≤ tk1 ∧ tk1 ≤ 5 := ex_tk1 ▸ hWx.1 11
    have b_fk1 : (0 : Int) ≤ fk1 ∧ fk1 ≤ 6 := ex_fk1 ▸ hWx.1 16
    have b_nd1 : (0 : Int) ≤ nd1 ∧ nd1 ≤ 6999 := ex_nd1 ▸ hWx.1 31
    have b_op1 : (-2147483648 : Int) ≤ op1 ∧ op1 ≤ 2147483647 := ex_op1 ▸ hWx.1 15
    refine jx_ld (pc' := 109) (l' := L) (st' := [.ref 66]) rfl (jl_aloadn gL_0) ?_
    refine jx_ar (pc' := 111) (st' := [.int (i32 (63)), .ref 66]) rfl rfl rfl rfl ?_
    have b1447 : (-2147483648 : Int) ≤ Gx 13 ∧ Gx 13 ≤ 2147483647 := hWx.1 13
    refine jx_vr (pc' := 114) (as := [.int (i32 (63))]) (st := []) rfl rfl rfl rfl ⟨rfl, rfl, Nat.le_of_ble_eq_true rfl⟩ rfl rfl (c_is (dd := d) (hd := by omega) (hW := hWx) (k := 63) (tk := tk1) (e_tk := show Gx 11 = tk1 from (ex_tk1)) (tn := Gx 13) (e_tn := show Gx 13 = Gx 13 from rfl)  (h_k := by omega)  ) (fun o V' hq => ?_)
    obtain ⟨r1448, rfl, rfl, b1449, q1450⟩ := hq
    refine .inr ⟨_, rfl, ?_⟩
    rcases q1450 with ⟨rfl, a1451, a1452, a1453⟩ | rfl
    · have _q : True := trivial
      refine jx_ld (pc' := 116) (l' := jSto1 L 7 (.int (i32 (1)))) (st' := []) rfl rfl ?_
      obtain ⟨L1454, eL1454⟩ : ∃ q, q = jSto1 L 7 (.int (i32 (1))) := ⟨_, rfl⟩
      rw [← eL1454]
      have gL1454_0 : jGet L1454 0 = some (.ref 66) := eL1454 ▸ jg_ne (by decide) gL_0 rfl
      have gL1454_1 : jGet L1454 1 = some (.int (i32 (one))) := eL1454 ▸ jg_ne (by decide) gL_1 rfl
      have gL1454_3 : jGet L1454 3 = some (.int (i32 (pl))) := eL1454 ▸ jg_ne (by decide) gL_3 rfl
      have gL1454_4 : jGet L1454 4 = some (.int (i32 (s))) := eL1454 ▸ jg_ne (by decide) gL_4 rfl
      have gL1454_5 : jGet L1454 5 = some (.int (i32 (ix))) := eL1454 ▸ jg_ne (by decide) gL_5 rfl
      have gL1454_6 : jGet L1454 6 = some (.int (i32 (row))) := eL1454 ▸ jg_ne (by decide) gL_6 rfl
      have gL1454_7 : jGet L1454 7 = some (.int (i32 (1))) := eL1454 ▸ jg_eq
      refine jx_ld (pc' := 117) (l' := L1454) (st' := [.ref 66]) rfl (jl_aloadn gL1454_0) ?_
      refine jr_get (pc' := 120) (i := 21) (v := .ref 74) rfl rfl (by decide) rfl rfl ?_
      refine jx_ld (pc' := 122) (l' := L1454) (st' := [.int (i32 (s)), .ref 74]) rfl (jl_iload gL1454_4) ?_
      have b1455 : (0 : Int) ≤ A 7 (s).toNat ∧ A 7 (s).toNat ≤ 14 := hW.2 7 _
      refine jr_ldv (pc' := 123) (i := 7) (m := 260) (z := s) (y := A 7 (s).toNat) rfl (by decide) rfl (by decide) (by omega) (by omega) rfl (show Ax 7 (s).toNat = A 7 (s).toNat from (congrFun (hFx.2 7 rfl) _)) ?_
      refine jx_ld (pc' := 125) (l' := jSto1 L1454 8 (.int (i32 (A 7 (s).toNat)))) (st' := []) rfl rfl ?_
      obtain ⟨L1456, eL1456⟩ : ∃ q, q = jSto1 L1454 8 (.int (i32 (A 7 (s).toNat))) := ⟨_, rfl⟩
      rw [← eL1456]
      have gL1456_0 : jGet L1456 0 = some (.ref 66) := eL1456 ▸ jg_ne (by decide) gL1454_0 rfl
      have gL1456_1 : jGet L1456 1 = some (.int (i32 (one))) := eL1456 ▸ jg_ne (by decide) gL1454_1 rfl
      have gL1456_3 : jGet L1456 3 = some (.int (i32 (pl))) := eL1456 ▸ jg_ne (by decide) gL1454_3 rfl
      have gL1456_4 : jGet L1456 4 = some (.int (i32 (s))) := eL1456 ▸ jg_ne (by decide) gL1454_4 rfl
      have gL1456_5 : jGet L1456 5 = some (.int (i32 (ix))) := eL1456 ▸ jg_ne (by decide) gL1454_5 rfl
      have gL1456_6 : jGet L1456 6 = some (.int (i32 (row))) := eL1456 ▸ jg_ne (by decide) gL1454_6 rfl
      have gL1456_7 : jGet L1456 7 = some (.int (i32 (1))) := eL1456 ▸ jg_ne (by decide) gL1454_7 rfl
      have gL1456_8 : jGet L1456 8 = some (.int (i32 (A 7 (s).toNat))) := eL1456 ▸ jg_eq
      refine jx_ld (pc' := 127) (l' := L1456) (st' := [.int (i32 (1))]) rfl (jl_iload gL1456_7) ?_
      refine jx_if_ne (pc' := 130) (tg := 157) rfl rfl rfl (by omega) (by omega) (fun h1457 => ?_) (fun h1457 => ?_)
      · have _q := h1457
        have z1458 := tz_f (tk1)
        exact at_157 L1456 Gx Ax (one) (pl) (s) (ix) (row) (1) (A 7 (s).toNat) (at1) (tk1) (fk1) (nd1) (op1) gL1456_0 gL1456_1 gL1456_3 gL1456_4 gL1456_5 gL1456_6 gL1456_7 gL1456_8 hWx hFx ((ex_at1)) ((ex_tk1)) ((ex_fk1)) ((ex_nd1)) ((ex_op1)) ((fx_9)) (by omega) (by omega) (by omega) (by omega) (by omega) (by omega) (by omega) (by omega) (by omega) (by omega) (by omega) (by omega) (by omega) (by omega) (by omega) (by omega) (by omega) (by omega)
      · have _q := h1457
        exact absurd h1457 (by omega)
    · have _q : True := trivial
      refine jx_ld (pc' := 116) (l' := jSto1 L 7 (.int (i32 (0)))) (st' := []) rfl rfl ?_
      obtain ⟨L1459, eL1459⟩ : ∃ q, q = jSto1 L 7 (.int (i32 (0))) := ⟨_, rfl⟩
      rw [← eL1459]
      have gL1459_0 : jGet L1459 0 = some (.ref 66) := eL1459 ▸ jg_ne (by decide) gL_0 rfl
      have gL1459_1 : jGet L1459 1 = some (.int (i32 (one))) := eL1459 ▸ jg_ne (by decide) gL_1 rfl
      have gL1459_3 : jGet L1459 3 = some (.int (i32 (pl))) := eL1459 ▸ jg_ne (by decide) gL_3 rfl
      have gL1459_4 : jGet L1459 4 = some (.int (i32 (s))) := eL1459 ▸ jg_ne (by decide) gL_4 rfl
      have gL1459_5 : jGet L1459 5 = some (.int (i32 (ix))) := eL1459 ▸ jg_ne (by decide) gL_5 rfl
      have gL1459_6 : jGet L1459 6 = some (.int (i32 (row))) := eL1459 ▸ jg_ne (by decide) gL_6 rfl
      have gL1459_7 : jGet L1459 7 = some (.int (i32 (0))) := eL1459 ▸ jg_eq
      refine jx_ld (pc' := 117) (l' := L1459) (st' := [.ref 66]) rfl (jl_aloadn gL1459_0) ?_
      refine jr_get (pc' := 120) (i := 21) (v := .ref 74) rfl rfl (by decide) rfl rfl ?_
      refine jx_ld (pc' := 122) (l' := L1459) (st' := [.int (i32 (s)), .ref 74]) rfl (jl_iload gL1459_4) ?_
      have b1460 : (0 : Int) ≤ A 7 (s).toNat ∧ A 7 (s).toNat ≤ 14 := hW.2 7 _
      refine jr_ldv (pc' := 123) (i := 7) (m := 260) (z := s) (y := A 7 (s).toNat) rfl (by decide) rfl (by decide) (by omega) (by omega) rfl (show Ax 7 (s).toNat = A 7 (s).toNat from (congrFun (hFx.2 7 rfl) _)) ?_
      refine jx_ld (pc' := 125) (l' := jSto1 L1459 8 (.int (i32 (A 7 (s).toNat)))) (st' := []) rfl rfl ?_
      obtain ⟨L1461, eL1461⟩ : ∃ q, q = jSto1 L1459 8 (.int (i32 (A 7 (s).toNat))) := ⟨_, rfl⟩
      rw [← eL1461]
      have gL1461_0 : jGet L1461 0 = some (.ref 66) := eL1461 ▸ jg_ne (by decide) gL1459_0 rfl
      have gL1461_1 : jGet L1461 1 = some (.int (i32 (one))) := eL1461 ▸ jg_ne (by decide) gL1459_1 rfl
      have gL1461_3 : jGet L1461 3 = some (.int (i32 (pl))) := eL1461 ▸ jg_ne (by decide) gL1459_3 rfl
      have gL1461_4 : jGet L1461 4 = some (.int (i32 (s))) := eL1461 ▸ jg_ne (by decide) gL1459_4 rfl
      have gL1461_5 : jGet L1461 5 = some (.int (i32 (ix))) := eL1461 ▸ jg_ne (by decide) gL1459_5 rfl
      have gL1461_6 : jGet L1461 6 = some (.int (i32 (row))) := eL1461 ▸ jg_ne (by decide) gL1459_6 rfl
      have gL1461_7 : jGet L1461 7 = some (.int (i32 (0))) := eL1461 ▸ jg_ne (by decide) gL1459_7 rfl
      have gL1461_8 : jGet L1461 8 = some (.int (i32 (A 7 (s).toNat))) := eL1461 ▸ jg_eq
      refine jx_ld (pc' := 127) (l' := L1461) (st' := [.int (i32 (0))]) rfl (jl_iload gL1461_7) ?_
      refine jx_if_ne (pc' := 130) (tg := 157) rfl rfl rfl (by omega) (by omega) (fun h1462 => ?_) (fun h1462 => ?_)
      · have _q := h1462
        exact absurd h1462 (by omega)
      · have _q := h1462
        refine jx_ld (pc' := 131) (l' := L1461) (st' := [.ref 66]) rfl (jl_aloadn gL1461_0) ?_
        refine jx_ar (pc' := 133) (st' := [.int (i32 (38)), .ref 66]) rfl rfl rfl rfl ?_
        refine jx_vr (pc' := 136) (as := [.int (i32 (38))]) (st := []) rfl rfl rfl rfl ⟨rfl, rfl, Nat.le_of_ble_eq_true rfl⟩ rfl rfl (c_is (dd := d) (hd := by omega) (hW := hWx) (k := 38) (tk := tk1) (e_tk := show Gx 11 = tk1 from (ex_tk1)) (tn := Gx 13) (e_tn := show Gx 13 = Gx 13 from rfl)  (h_k := by omega)  ) (fun o V' hq => ?_)
        obtain ⟨r1463, rfl, rfl, b1464, q1465⟩ := hq
        refine .inr ⟨_, rfl, ?_⟩
        rcases q1465 with ⟨rfl, a1466, a1467, a1468⟩ | rfl
        · have _q : True := trivial
          refine jx_if_ne (pc' := 139) (tg := 157) rfl rfl rfl (by omega) (by omega) (fun h1469 => ?_) (fun h1469 => ?_)
          · have _q := h1469
            have z1470 := tz_f (tk1)
            exact at_157 L1461 Gx Ax (one) (pl) (s) (ix) (row) (0) (A 7 (s).toNat) (at1) (tk1) (fk1) (nd1) (op1) gL1461_0 gL1461_1 gL1461_3 gL1461_4 gL1461_5 gL1461_6 gL1461_7 gL1461_8 hWx hFx ((ex_at1)) ((ex_tk1)) ((ex_fk1)) ((ex_nd1)) ((ex_op1)) ((fx_9)) (by omega) (by omega) (by omega) (by omega) (by omega) (by omega) (by omega) (by omega) (by omega) (by omega) (by omega) (by omega) (by omega) (by omega) (by omega) (by omega) (by omega) (by omega)
          · have _q := h1469
            exact absurd h1469 (by omega)
        · have _q : True := trivial
          refine jx_if_ne (pc' := 139) (tg := 157) rfl rfl rfl (by omega) (by omega) (fun h1471 => ?_) (fun h1471 => ?_)
          · have _q := h1471
            exact absurd h1471 (by omega)
          · have _q := h1471
            refine jx_ld (pc' := 140) (l' := L1461) (st' := [.ref 66]) rfl (jl_aloadn gL1461_0) ?_
            refine jx_vr (pc' := 143) (as := []) (st := []) rfl rfl rfl rfl ⟨rfl, rfl, Nat.le_of_ble_eq_true rfl⟩ rfl rfl (c_operationAt (dd := d) (hd := by omega) (hW := hWx)  (tk := tk1) (e_tk := show Gx 11 = tk1 from (ex_tk1)) (tn := Gx 13) (e_tn := show Gx 13 = Gx 13 from rfl)    ) (fun o V' hq => ?_)
            obtain ⟨r1472, rfl, rfl, b1473, q1474⟩ := hq
            refine .inr ⟨_, rfl, ?_⟩
            rcases q1474 with rfl | a1475
            · have _q : True := trivial
              refine jx_if_ne (pc' := 146) (tg := 157) rfl rfl rfl (by omega) (by omega) (fun h1476 => ?_) (fun h1476 => ?_)
              · have _q := h1476
                exact absurd h1476 (by omega)
              · have _q := h1476
                refine jx_ld (pc' := 147) (l' := L1461) (st' := [.ref 66]) rfl (jl_aloadn gL1461_0) ?_
                refine jx_ar (pc' := 148) (st' := [.int (i32 (1)), .ref 66]) rfl rfl rfl rfl ?_
                refine jx_ld (pc' := 149) (l' := L1461) (st' := [.ref 66, .int (i32 (1)), .ref 66]) rfl (jl_aloadn gL1461_0) ?_
                have b1477 : (-3000 : Int) ≤ Gx 12 ∧ Gx 12 ≤ 3002 := hWx.1 12
                refine jr_get (pc' := 152) (i := 12) (v := .int (i32 (Gx 12))) rfl rfl (by decide) rfl rfl ?_
                refine jx_vr (pc' := 155) (as := [.int (i32 (1)), .int (i32 (Gx 12))]) (st := []) rfl rfl rfl rfl ⟨rfl, rfl, Nat.le_of_ble_eq_true rfl⟩ rfl rfl (c_fail (dd := d) (hd := by omega) (hW := hWx) (kind := 1) (place := Gx 12) (fk := fk1) (e_fk := show Gx 16 = fk1 from (ex_fk1))  (h_kind := by omega) (h_place := by omega)  (p_0 := by omega) (p_1 := by omega)) (fun o V' hq => ?_)
                obtain ⟨G1478, A1479, fk2_1480, rfl, rfl, hW1481, hF1482, e1483, p1484, -⟩ := hq
                have hF1486 := Fr_tr hFx hF1482 (Fr_sub (by decide)) (Fr_sub (by decide))
                have bfk2_1480 : (0 : Int) ≤ fk2_1480 ∧ fk2_1480 ≤ 6 := e1483 ▸ hW1481.1 16
                refine .inl ⟨rfl, ?_⟩
                refine jx_ar (pc' := 156) (st' := [.int (i32 (0))]) rfl rfl rfl rfl ?_
                refine jx_rt (v := some (.int (i32 (0)))) rfl rfl rfl rfl rfl rfl ?_
                exact ⟨_, _, _, at1, fk2_1480, nd1, ln, rfl, rfl, hW1481, hF1486, by omega, ((hF1482.1 10 rfl).trans (ex_at1)), (e1483), ((hF1482.1 31 rfl).trans (ex_nd1)), ((hF1482.1 9 rfl).trans (fx_9)), by omega, by omega, by omega, by omega, by omega, by first | exact Or.inl (⟨by omega, by omega, by omega⟩) | exact Or.inr ((⟨by omega, by omega, by omega⟩))⟩
            · have _q : True := trivial
              refine jx_if_ne (pc' := 146) (tg := 157) rfl rfl rfl (by omega) (by omega) (fun h1487 => ?_) (fun h1487 => ?_)
              · have _q := h1487
                have z1488 := tz_f (tk1)
                exact at_157 L1461 Gx Ax (one) (pl) (s) (ix) (row) (0) (A 7 (s).toNat) (at1) (tk1) (fk1) (nd1) (op1) gL1461_0 gL1461_1 gL1461_3 gL1461_4 gL1461_5 gL1461_6 gL1461_7 gL1461_8 hWx hFx ((ex_at1)) ((ex_tk1)) ((ex_fk1)) ((ex_nd1)) ((ex_op1)) ((fx_9)) (by omega) (by omega) (by omega) (by omega) (by omega) (by omega) (by omega) (by omega) (by omega) (by omega) (by omega) (by omega) (by omega) (by omega) (by omega) (by omega) (by omega) (by omega)
              · have _q := h1487
                refine jx_ld (pc' := 147) (l' := L1461) (st' := [.ref 66]) rfl (jl_aloadn gL1461_0) ?_
                refine jx_ar (pc' := 148) (st' := [.int (i32 (1)), .ref 66]) rfl rfl rfl rfl ?_
                refine jx_ld (pc' := 149) (l' := L1461) (st' := [.ref 66, .int (i32 (1)), .ref 66]) rfl (jl_aloadn gL1461_0) ?_
                have b1489 : (-3000 : Int) ≤ Gx 12 ∧ Gx 12 ≤ 3002 := hWx.1 12
                refine jr_get (pc' := 152) (i := 12) (v := .int (i32 (Gx 12))) rfl rfl (by decide) rfl rfl ?_
                refine jx_vr (pc' := 155) (as := [.int (i32 (1)), .int (i32 (Gx 12))]) (st := []) rfl rfl rfl rfl ⟨rfl, rfl, Nat.le_of_ble_eq_true rfl⟩ rfl rfl (c_fail (dd := d) (hd := by omega) (hW := hWx) (kind := 1) (place := Gx 12) (fk := fk1) (e_fk := show Gx 16 = fk1 from (ex_fk1))  (h_kind := by omega) (h_place := by omega)  (p_0 := by omega) (p_1 := by omega)) (fun o V' hq => ?_)
                obtain ⟨G1490, A1491, fk2_1492, rfl, rfl, hW1493, hF1494, e1495, p1496, -⟩ := hq
                have hF1498 := Fr_tr hFx hF1494 (Fr_sub (by decide)) (Fr_sub (by decide))
                have bfk2_1492 : (0 : Int) ≤ fk2_1492 ∧ fk2_1492 ≤ 6 := e1495 ▸ hW1493.1 16
                refine .inl ⟨rfl, ?_⟩
                refine jx_ar (pc' := 156) (st' := [.int (i32 (0))]) rfl rfl rfl rfl ?_
                refine jx_rt (v := some (.int (i32 (0)))) rfl rfl rfl rfl rfl rfl ?_
                exact ⟨_, _, _, at1, fk2_1492, nd1, ln, rfl, rfl, hW1493, hF1498, by omega, ((hF1494.1 10 rfl).trans (ex_at1)), (e1495), ((hF1494.1 31 rfl).trans (ex_nd1)), ((hF1494.1 9 rfl).trans (fx_9)), by omega, by omega, by omega, by omega, by omega, by first | exact Or.inl (⟨by omega, by omega, by omega⟩) | exact Or.inr ((⟨by omega, by omega, by omega⟩))⟩
  refine jx_ld (pc' := 1) (l' := [(0, .ref 66)]) (st' := [.ref 66]) rfl (jl_aloadn rfl) ?_
  refine jx_ar (pc' := 3) (st' := [.int (i32 (33)), .ref 66]) rfl rfl rfl rfl ?_
  refine jx_ar (pc' := 4) (st' := [.int (i32 (0)), .int (i32 (33)), .ref 66]) rfl rfl rfl rfl ?_
  refine jx_ar (pc' := 5) (st' := [.int (i32 (0)), .int (i32 (0)), .int (i32 (33)), .ref 66]) rfl rfl rfl rfl ?_
  refine jx_ar (pc' := 6) (st' := [.int (i32 (0)), .int (i32 (0)), .int (i32 (0)), .int (i32 (33)), .ref 66]) rfl rfl rfl rfl ?_
  refine jx_ar (pc' := 7) (st' := [.int (i32 (0)), .int (i32 (0)), .int (i32 (0)), .int (i32 (0)), .int (i32 (33)), .ref 66]) rfl rfl rfl rfl ?_
  refine jx_vr (pc' := 10) (as := [.int (i32 (33)), .int (i32 (0)), .int (i32 (0)), .int (i32 (0)), .int (i32 (0))]) (st := []) rfl rfl rfl rfl ⟨rfl, rfl, Nat.le_of_ble_eq_true rfl⟩ rfl rfl (c_node (dd := d) (hd := by omega) (hW := hW) (kind := 33) (a := 0) (b := 0) (c := 0) (e := 0) (nd := nd) (e_nd := show G 31 = nd from (e_nd))  (h_kind := by omega) (h_a := by omega) (h_b := by omega) (h_c := by omega) (h_e := by omega)  (p_0 := by omega) (p_1 := by omega)) (fun o V' hq => ?_)
  obtain ⟨G1499, A1500, r1501, nd2_1502, rfl, rfl, hW1503, hF1504, b1505, e1506, p1507, p1508, -⟩ := hq
  have hF1510 := Fr_tr hF0 hF1504 (Fr_sub (by decide)) (Fr_sub (by decide))
  have bnd2_1502 : (0 : Int) ≤ nd2_1502 ∧ nd2_1502 ≤ 6999 := e1506 ▸ hW1503.1 31
  refine .inr ⟨_, rfl, ?_⟩
  refine jx_ld (pc' := 11) (l' := jSto1 [(0, .ref 66)] 1 (.int (i32 (r1501)))) (st' := []) rfl rfl ?_
  obtain ⟨L1511, eL1511⟩ : ∃ q, q = jSto1 [(0, .ref 66)] 1 (.int (i32 (r1501))) := ⟨_, rfl⟩
  rw [← eL1511]
  have gL1511_0 : jGet L1511 0 = some (.ref 66) := eL1511 ▸ jg_ne (by decide) (rfl : jGet [(0, .ref 66)] 0 = some (.ref 66)) rfl
  have gL1511_1 : jGet L1511 1 = some (.int (i32 (r1501))) := eL1511 ▸ jg_eq
  refine jx_ar (pc' := 12) (st' := [.int (i32 (0))]) rfl rfl rfl rfl ?_
  refine jx_ld (pc' := 13) (l' := jSto1 L1511 2 (.int (i32 (0)))) (st' := []) rfl rfl ?_
  obtain ⟨L1512, eL1512⟩ : ∃ q, q = jSto1 L1511 2 (.int (i32 (0))) := ⟨_, rfl⟩
  rw [← eL1512]
  have gL1512_0 : jGet L1512 0 = some (.ref 66) := eL1512 ▸ jg_ne (by decide) gL1511_0 rfl
  have gL1512_1 : jGet L1512 1 = some (.int (i32 (r1501))) := eL1512 ▸ jg_ne (by decide) gL1511_1 rfl
  have gL1512_2 : jGet L1512 2 = some (.int (i32 (0))) := eL1512 ▸ jg_eq
  refine jx_ld (pc' := 14) (l' := L1512) (st' := [.ref 66]) rfl (jl_aloadn gL1512_0) ?_
  have z1513 := tz_f (tk0)
  refine jr_get (pc' := 17) (i := 11) (v := .int (i32 (tk0))) rfl rfl (by decide) (rFv_eq (by decide) (show G1499 11 = tk0 from ((hF1504.1 11 rfl).trans (e_tk0)))) rfl ?_
  refine jx_ar (pc' := 18) (st' := [.int (i32 (1)), .int (i32 (tk0))]) rfl rfl rfl rfl ?_
  refine jx_icmp_ne (pc' := 21) (tg := 288) rfl rfl rfl (by omega) (by omega) (by omega) (by omega) (fun h1514 => ?_) (fun h1514 => ?_)
  · have _q := h1514
    refine jx_ld (pc' := 289) (l' := L1512) (st' := [.ref 66]) rfl (jl_aloadn gL1512_0) ?_
    refine jx_vr (pc' := 292) (as := []) (st := []) rfl rfl rfl rfl ⟨rfl, rfl, Nat.le_of_ble_eq_true rfl⟩ rfl rfl (RE_all X 9 (dd := d) (hd := by omega) (hW := hW1503)  (ln := ln) (e_ln := show G1499 9 = ln from ((hF1504.1 9 rfl).trans (e_ln))) (le := le) (e_le := show A1500 4 (ln).toNat = le from (congrFun (hF1504.2 4 rfl) _).trans (e_le)) (at0 := at0) (e_at0 := show G1499 10 = at0 from ((hF1504.1 10 rfl).trans (e_at0))) (fk := fk) (e_fk := show G1499 16 = fk from ((hF1504.1 16 rfl).trans (e_fk))) (op0 := op0) (e_op0 := show G1499 15 = op0 from ((hF1504.1 15 rfl).trans (e_op0))) (nd := nd2_1502) (e_nd := show G1499 31 = nd2_1502 from (e1506)) (tk0 := tk0) (e_tk0 := show G1499 11 = tk0 from ((hF1504.1 11 rfl).trans (e_tk0)))    (p_0 := by omega) (p_1 := by omega) (p_2 := by omega) (p_3 := by omega) (p_4 := by omega) (p_5 := by omega)) (fun o V' hq => ?_)
    obtain ⟨G1515, A1516, r1517, at2_1518, fk2_1519, op2_1520, nd2_1521, tk2_1522, rfl, rfl, hW1523, hF1524, b1525, e1526, e1527, e1528, e1529, e1530, p1531, p1532, p1533, p1534, p1535, p1536, q1537⟩ := hq
    have hF1538 := Fr_tr hF1510 hF1524 (Fr_sub (by decide)) (Fr_sub (by decide))
    have bat2_1518 : (0 : Int) ≤ at2_1518 ∧ at2_1518 ≤ 3002 := e1526 ▸ hW1523.1 10
    have bfk2_1519 : (0 : Int) ≤ fk2_1519 ∧ fk2_1519 ≤ 6 := e1527 ▸ hW1523.1 16
    have bop2_1520 : (-2147483648 : Int) ≤ op2_1520 ∧ op2_1520 ≤ 2147483647 := e1528 ▸ hW1523.1 15
    have bnd2_1521 : (0 : Int) ≤ nd2_1521 ∧ nd2_1521 ≤ 6999 := e1529 ▸ hW1523.1 31
    have ztk2_1522 := tz_b tk2_1522
    have btk2_1522 : (0 : Int) ≤ tk2_1522 ∧ tk2_1522 ≤ 5 := e1530 ▸ hW1523.1 11
    refine .inr ⟨_, rfl, ?_⟩
    rcases q1537 with ⟨a1539, a1540, a1541, a1542, a1543, a1544⟩ | ⟨a1545, a1546, a1547⟩ | ⟨a1548, a1549, a1550⟩
    · have _q : True := trivial
      exfalso
      omega
    · have _q : True := trivial
      refine jx_ld (pc' := 293) (l' := jSto1 L1512 2 (.int (i32 (r1517)))) (st' := []) rfl rfl ?_
      obtain ⟨L1551, eL1551⟩ : ∃ q, q = jSto1 L1512 2 (.int (i32 (r1517))) := ⟨_, rfl⟩
      rw [← eL1551]
      have gL1551_0 : jGet L1551 0 = some (.ref 66) := eL1551 ▸ jg_ne (by decide) gL1512_0 rfl
      have gL1551_1 : jGet L1551 1 = some (.int (i32 (r1501))) := eL1551 ▸ jg_ne (by decide) gL1512_1 rfl
      have gL1551_2 : jGet L1551 2 = some (.int (i32 (r1517))) := eL1551 ▸ jg_eq
      have z1552 := tz_f (tk2_1522)
      exact at_293 L1551 G1515 A1516 (r1501) (r1517) (at2_1518) (tk2_1522) (fk2_1519) (nd2_1521) (op2_1520) gL1551_0 gL1551_1 gL1551_2 hW1523 hF1538 ((e1526)) ((e1530)) ((e1527)) ((e1529)) ((e1528)) (((hF1524.1 9 rfl).trans ((hF1504.1 9 rfl).trans (e_ln)))) (by omega) (by omega) (by omega) (by omega) (by omega) (by omega) (by omega) (by omega) (by omega)
    · have _q : True := trivial
      refine jx_ld (pc' := 293) (l' := jSto1 L1512 2 (.int (i32 (r1517)))) (st' := []) rfl rfl ?_
      obtain ⟨L1553, eL1553⟩ : ∃ q, q = jSto1 L1512 2 (.int (i32 (r1517))) := ⟨_, rfl⟩
      rw [← eL1553]
      have gL1553_0 : jGet L1553 0 = some (.ref 66) := eL1553 ▸ jg_ne (by decide) gL1512_0 rfl
      have gL1553_1 : jGet L1553 1 = some (.int (i32 (r1501))) := eL1553 ▸ jg_ne (by decide) gL1512_1 rfl
      have gL1553_2 : jGet L1553 2 = some (.int (i32 (r1517))) := eL1553 ▸ jg_eq
      have z1554 := tz_f (tk2_1522)
      exact at_293 L1553 G1515 A1516 (r1501) (r1517) (at2_1518) (tk2_1522) (fk2_1519) (nd2_1521) (op2_1520) gL1553_0 gL1553_1 gL1553_2 hW1523 hF1538 ((e1526)) ((e1530)) ((e1527)) ((e1529)) ((e1528)) (((hF1524.1 9 rfl).trans ((hF1504.1 9 rfl).trans (e_ln)))) (by omega) (by omega) (by omega) (by omega) (by omega) (by omega) (by omega) (by omega) (by omega)
  · have _q := h1514
    refine jx_ld (pc' := 22) (l' := L1512) (st' := [.ref 66]) rfl (jl_aloadn gL1512_0) ?_
    have b1555 : (-3000 : Int) ≤ G 12 ∧ G 12 ≤ 3002 := hW.1 12
    refine jr_get (pc' := 25) (i := 12) (v := .int (i32 (G 12))) rfl rfl (by decide) (rFv_eq (by decide) (show G1499 12 = G 12 from (hF1504.1 12 rfl))) rfl ?_
    refine jx_ld (pc' := 26) (l' := jSto1 L1512 3 (.int (i32 (G 12)))) (st' := []) rfl rfl ?_
    obtain ⟨L1556, eL1556⟩ : ∃ q, q = jSto1 L1512 3 (.int (i32 (G 12))) := ⟨_, rfl⟩
    rw [← eL1556]
    have gL1556_0 : jGet L1556 0 = some (.ref 66) := eL1556 ▸ jg_ne (by decide) gL1512_0 rfl
    have gL1556_1 : jGet L1556 1 = some (.int (i32 (r1501))) := eL1556 ▸ jg_ne (by decide) gL1512_1 rfl
    have gL1556_2 : jGet L1556 2 = some (.int (i32 (0))) := eL1556 ▸ jg_ne (by decide) gL1512_2 rfl
    have gL1556_3 : jGet L1556 3 = some (.int (i32 (G 12))) := eL1556 ▸ jg_eq
    refine jx_ld (pc' := 27) (l' := L1556) (st' := [.ref 66]) rfl (jl_aloadn gL1556_0) ?_
    refine jx_vr (pc' := 30) (as := []) (st := []) rfl rfl rfl rfl ⟨rfl, rfl, Nat.le_of_ble_eq_true rfl⟩ rfl rfl (c_lookUp (dd := d) (hd := by omega) (hW := hW1503)  (fk := fk) (e_fk := show G1499 16 = fk from ((hF1504.1 16 rfl).trans (e_fk)))    ) (fun o V' hq => ?_)
    obtain ⟨G1557, A1558, r1559, fk2_1560, rfl, rfl, hW1561, hF1562, b1563, e1564, q1565⟩ := hq
    have hF1566 := Fr_tr hF1510 hF1562 (Fr_sub (by decide)) (Fr_sub (by decide))
    have bfk2_1560 : (0 : Int) ≤ fk2_1560 ∧ fk2_1560 ≤ 6 := e1564 ▸ hW1561.1 16
    refine .inr ⟨_, rfl, ?_⟩
    rcases q1565 with ⟨a1567, a1568⟩ | ⟨a1569, a1570, a1571⟩
    · have _q : True := trivial
      refine jx_ld (pc' := 32) (l' := jSto1 L1556 4 (.int (i32 (r1559)))) (st' := []) rfl rfl ?_
      obtain ⟨L1572, eL1572⟩ : ∃ q, q = jSto1 L1556 4 (.int (i32 (r1559))) := ⟨_, rfl⟩
      rw [← eL1572]
      have gL1572_0 : jGet L1572 0 = some (.ref 66) := eL1572 ▸ jg_ne (by decide) gL1556_0 rfl
      have gL1572_1 : jGet L1572 1 = some (.int (i32 (r1501))) := eL1572 ▸ jg_ne (by decide) gL1556_1 rfl
      have gL1572_2 : jGet L1572 2 = some (.int (i32 (0))) := eL1572 ▸ jg_ne (by decide) gL1556_2 rfl
      have gL1572_3 : jGet L1572 3 = some (.int (i32 (G 12))) := eL1572 ▸ jg_ne (by decide) gL1556_3 rfl
      have gL1572_4 : jGet L1572 4 = some (.int (i32 (r1559))) := eL1572 ▸ jg_eq
      refine jx_ld (pc' := 33) (l' := L1572) (st' := [.ref 66]) rfl (jl_aloadn gL1572_0) ?_
      refine jx_vr (pc' := 36) (as := []) (st := []) rfl rfl rfl rfl ⟨rfl, rfl, Nat.le_of_ble_eq_true rfl⟩ rfl rfl (c_bad (dd := d) (hd := by omega) (hW := hW1561)  (fk := fk2_1560) (e_fk := show G1557 16 = fk2_1560 from (e1564))    ) (fun o V' hq => ?_)
      obtain ⟨r1573, rfl, rfl, b1574, q1575⟩ := hq
      refine .inr ⟨_, rfl, ?_⟩
      rcases q1575 with ⟨rfl, a1576⟩ | ⟨rfl, a1577⟩
      · have _q : True := trivial
        refine jx_if_eq (pc' := 39) (tg := 41) rfl rfl rfl (by omega) (by omega) (fun h1578 => ?_) (fun h1578 => ?_)
        · have _q := h1578
          exact absurd h1578 (by omega)
        · have _q := h1578
          refine jx_ar (pc' := 40) (st' := [.int (i32 (0))]) rfl rfl rfl rfl ?_
          refine jx_rt (v := some (.int (i32 (0)))) rfl rfl rfl rfl rfl rfl ?_
          exact ⟨_, _, _, at0, fk2_1560, nd2_1502, ln, rfl, rfl, hW1561, hF1566, by omega, ((hF1562.1 10 rfl).trans ((hF1504.1 10 rfl).trans (e_at0))), (e1564), ((hF1562.1 31 rfl).trans (e1506)), ((hF1562.1 9 rfl).trans ((hF1504.1 9 rfl).trans (e_ln))), by omega, by omega, by omega, by omega, by omega, by first | exact Or.inl (⟨by omega, by omega, by omega⟩) | exact Or.inr ((⟨by omega, by omega, by omega⟩))⟩
      · have _q : True := trivial
        exfalso
        omega
    · have _q : True := trivial
      refine jx_ld (pc' := 32) (l' := jSto1 L1556 4 (.int (i32 (r1559)))) (st' := []) rfl rfl ?_
      obtain ⟨L1579, eL1579⟩ : ∃ q, q = jSto1 L1556 4 (.int (i32 (r1559))) := ⟨_, rfl⟩
      rw [← eL1579]
      have gL1579_0 : jGet L1579 0 = some (.ref 66) := eL1579 ▸ jg_ne (by decide) gL1556_0 rfl
      have gL1579_1 : jGet L1579 1 = some (.int (i32 (r1501))) := eL1579 ▸ jg_ne (by decide) gL1556_1 rfl
      have gL1579_2 : jGet L1579 2 = some (.int (i32 (0))) := eL1579 ▸ jg_ne (by decide) gL1556_2 rfl
      have gL1579_3 : jGet L1579 3 = some (.int (i32 (G 12))) := eL1579 ▸ jg_ne (by decide) gL1556_3 rfl
      have gL1579_4 : jGet L1579 4 = some (.int (i32 (r1559))) := eL1579 ▸ jg_eq
      refine jx_ld (pc' := 33) (l' := L1579) (st' := [.ref 66]) rfl (jl_aloadn gL1579_0) ?_
      refine jx_vr (pc' := 36) (as := []) (st := []) rfl rfl rfl rfl ⟨rfl, rfl, Nat.le_of_ble_eq_true rfl⟩ rfl rfl (c_bad (dd := d) (hd := by omega) (hW := hW1561)  (fk := fk2_1560) (e_fk := show G1557 16 = fk2_1560 from (e1564))    ) (fun o V' hq => ?_)
      obtain ⟨r1580, rfl, rfl, b1581, q1582⟩ := hq
      refine .inr ⟨_, rfl, ?_⟩
      rcases q1582 with ⟨rfl, a1583⟩ | ⟨rfl, a1584⟩
      · have _q : True := trivial
        exfalso
        omega
      · have _q : True := trivial
        refine jx_if_eq (pc' := 39) (tg := 41) rfl rfl rfl (by omega) (by omega) (fun h1585 => ?_) (fun h1585 => ?_)
        · have _q := h1585
          refine jx_ld (pc' := 42) (l' := L1579) (st' := [.ref 66]) rfl (jl_aloadn gL1579_0) ?_
          refine jx_vr (pc' := 45) (as := []) (st := []) rfl rfl rfl rfl ⟨rfl, rfl, Nat.le_of_ble_eq_true rfl⟩ rfl rfl (c_next (dd := d) (hd := by omega) (hW := hW1561)  (ln := ln) (e_ln := show G1557 9 = ln from ((hF1562.1 9 rfl).trans ((hF1504.1 9 rfl).trans (e_ln)))) (le := le) (e_le := show A1558 4 (ln).toNat = le from (congrFun ((hF1562.2 4 rfl).trans (hF1504.2 4 rfl)) _).trans (e_le)) (at0 := at0) (e_at0 := show G1557 10 = at0 from ((hF1562.1 10 rfl).trans ((hF1504.1 10 rfl).trans (e_at0))))    (p_0 := by omega)) (fun o V' hq => ?_)
          obtain ⟨G1586, A1587, at2_1588, tk2_1589, rfl, rfl, hW1590, hF1591, e1592, e1593, p1594, p1595, p1596, -⟩ := hq
          have hF1598 := Fr_tr hF1566 hF1591 (Fr_sub (by decide)) (Fr_sub (by decide))
          have bat2_1588 : (0 : Int) ≤ at2_1588 ∧ at2_1588 ≤ 3002 := e1592 ▸ hW1590.1 10
          have ztk2_1589 := tz_b tk2_1589
          have btk2_1589 : (0 : Int) ≤ tk2_1589 ∧ tk2_1589 ≤ 5 := e1593 ▸ hW1590.1 11
          refine .inl ⟨rfl, ?_⟩
          refine jx_ar (pc' := 46) (st' := [.int (i32 (0))]) rfl rfl rfl rfl ?_
          refine jx_ld (pc' := 48) (l' := jSto1 L1579 5 (.int (i32 (0)))) (st' := []) rfl rfl ?_
          obtain ⟨L1599, eL1599⟩ : ∃ q, q = jSto1 L1579 5 (.int (i32 (0))) := ⟨_, rfl⟩
          rw [← eL1599]
          have gL1599_0 : jGet L1599 0 = some (.ref 66) := eL1599 ▸ jg_ne (by decide) gL1579_0 rfl
          have gL1599_1 : jGet L1599 1 = some (.int (i32 (r1501))) := eL1599 ▸ jg_ne (by decide) gL1579_1 rfl
          have gL1599_2 : jGet L1599 2 = some (.int (i32 (0))) := eL1599 ▸ jg_ne (by decide) gL1579_2 rfl
          have gL1599_3 : jGet L1599 3 = some (.int (i32 (G 12))) := eL1599 ▸ jg_ne (by decide) gL1579_3 rfl
          have gL1599_4 : jGet L1599 4 = some (.int (i32 (r1559))) := eL1599 ▸ jg_ne (by decide) gL1579_4 rfl
          have gL1599_5 : jGet L1599 5 = some (.int (i32 (0))) := eL1599 ▸ jg_eq
          refine jx_ld (pc' := 49) (l' := L1599) (st' := [.ref 66]) rfl (jl_aloadn gL1599_0) ?_
          refine jx_ar (pc' := 51) (st' := [.int (i32 (91)), .ref 66]) rfl rfl rfl rfl ?_
          have b1600 : (-2147483648 : Int) ≤ G1586 13 ∧ G1586 13 ≤ 2147483647 := hW1590.1 13
          refine jx_vr (pc' := 54) (as := [.int (i32 (91))]) (st := []) rfl rfl rfl rfl ⟨rfl, rfl, Nat.le_of_ble_eq_true rfl⟩ rfl rfl (c_is (dd := d) (hd := by omega) (hW := hW1590) (k := 91) (tk := tk2_1589) (e_tk := show G1586 11 = tk2_1589 from (e1593)) (tn := G1586 13) (e_tn := show G1586 13 = G1586 13 from rfl)  (h_k := by omega)  ) (fun o V' hq => ?_)
          obtain ⟨r1601, rfl, rfl, b1602, q1603⟩ := hq
          refine .inr ⟨_, rfl, ?_⟩
          rcases q1603 with ⟨rfl, a1604, a1605, a1606⟩ | rfl
          · have _q : True := trivial
            refine jx_ld (pc' := 56) (l' := jSto1 L1599 6 (.int (i32 (1)))) (st' := []) rfl rfl ?_
            obtain ⟨L1607, eL1607⟩ : ∃ q, q = jSto1 L1599 6 (.int (i32 (1))) := ⟨_, rfl⟩
            rw [← eL1607]
            have gL1607_0 : jGet L1607 0 = some (.ref 66) := eL1607 ▸ jg_ne (by decide) gL1599_0 rfl
            have gL1607_1 : jGet L1607 1 = some (.int (i32 (r1501))) := eL1607 ▸ jg_ne (by decide) gL1599_1 rfl
            have gL1607_2 : jGet L1607 2 = some (.int (i32 (0))) := eL1607 ▸ jg_ne (by decide) gL1599_2 rfl
            have gL1607_3 : jGet L1607 3 = some (.int (i32 (G 12))) := eL1607 ▸ jg_ne (by decide) gL1599_3 rfl
            have gL1607_4 : jGet L1607 4 = some (.int (i32 (r1559))) := eL1607 ▸ jg_ne (by decide) gL1599_4 rfl
            have gL1607_5 : jGet L1607 5 = some (.int (i32 (0))) := eL1607 ▸ jg_ne (by decide) gL1599_5 rfl
            have gL1607_6 : jGet L1607 6 = some (.int (i32 (1))) := eL1607 ▸ jg_eq
            refine jx_ld (pc' := 58) (l' := L1607) (st' := [.int (i32 (1))]) rfl (jl_iload gL1607_6) ?_
            refine jx_if_eq (pc' := 61) (tg := 99) rfl rfl rfl (by omega) (by omega) (fun h1608 => ?_) (fun h1608 => ?_)
            · have _q := h1608
              exact absurd h1608 (by omega)
            · have _q := h1608
              refine jx_ld (pc' := 62) (l' := L1607) (st' := [.ref 66]) rfl (jl_aloadn gL1607_0) ?_
              refine jr_get (pc' := 65) (i := 21) (v := .ref 74) rfl rfl (by decide) rfl rfl ?_
              refine jx_ld (pc' := 67) (l' := L1607) (st' := [.int (i32 (r1559)), .ref 74]) rfl (jl_iload gL1607_4) ?_
              have b1609 : (0 : Int) ≤ A 7 (r1559).toNat ∧ A 7 (r1559).toNat ≤ 14 := hW.2 7 _
              refine jr_ldv (pc' := 68) (i := 7) (m := 260) (z := r1559) (y := A 7 (r1559).toNat) rfl (by decide) rfl (by decide) (by omega) (by omega) rfl (show A1587 7 (r1559).toNat = A 7 (r1559).toNat from (congrFun ((hF1591.2 7 rfl).trans ((hF1562.2 7 rfl).trans (hF1504.2 7 rfl))) _)) ?_
              refine jx_st (pc' := 71) (as := [.int (i32 (A 7 (r1559).toNat))]) (st := []) rfl rfl ⟨rfl, Nat.le_of_ble_eq_true rfl⟩ rfl rfl rfl (c_isArray (dd := d) (hd := by omega) (k := A 7 (r1559).toNat)   (h_k := by omega)  ) (fun o V' hq => ?_)
              obtain ⟨r1610, rfl, rfl, b1611, q1612⟩ := hq
              refine .inr ⟨_, rfl, ?_⟩
              rcases q1612 with rfl | rfl
              · have _q : True := trivial
                refine jx_if_ne (pc' := 74) (tg := 93) rfl rfl rfl (by omega) (by omega) (fun h1613 => ?_) (fun h1613 => ?_)
                · have _q := h1613
                  refine jx_ld (pc' := 94) (l' := L1607) (st' := [.ref 66]) rfl (jl_aloadn gL1607_0) ?_
                  refine jx_vr (pc' := 97) (as := []) (st := []) rfl rfl rfl rfl ⟨rfl, rfl, Nat.le_of_ble_eq_true rfl⟩ rfl rfl (c_readIndex (dd := d) (k := 9) (hE := RE_all X 9) (hd := by omega) (hW := hW1590)  (ln := ln) (e_ln := show G1586 9 = ln from ((hF1591.1 9 rfl).trans ((hF1562.1 9 rfl).trans ((hF1504.1 9 rfl).trans (e_ln))))) (le := le) (e_le := show A1587 4 (ln).toNat = le from (congrFun ((hF1591.2 4 rfl).trans ((hF1562.2 4 rfl).trans (hF1504.2 4 rfl))) _).trans (e_le)) (at0 := at2_1588) (e_at0 := show G1586 10 = at2_1588 from (e1592)) (fk := fk2_1560) (e_fk := show G1586 16 = fk2_1560 from ((hF1591.1 16 rfl).trans (e1564))) (op0 := op0) (e_op0 := show G1586 15 = op0 from ((hF1591.1 15 rfl).trans ((hF1562.1 15 rfl).trans ((hF1504.1 15 rfl).trans (e_op0))))) (nd := nd2_1502) (e_nd := show G1586 31 = nd2_1502 from ((hF1591.1 31 rfl).trans ((hF1562.1 31 rfl).trans (e1506)))) (tk0 := tk2_1589) (e_tk0 := show G1586 11 = tk2_1589 from (e1593))    (p_0 := by omega) (p_1 := by omega) (p_2 := by omega) (p_3 := by omega) (p_4 := by omega) (p_5 := by omega) (p_6 := by omega) (p_7 := by omega) (p_8 := by omega)) (fun o V' hq => ?_)
                  obtain ⟨G1614, A1615, r1616, at2_1617, fk2_1618, op2_1619, nd2_1620, tk2_1621, rfl, rfl, hW1622, hF1623, b1624, e1625, e1626, e1627, e1628, e1629, p1630, p1631, p1632, p1633, p1634, p1635, q1636⟩ := hq
                  have hF1637 := Fr_tr hF1598 hF1623 (Fr_sub (by decide)) (Fr_sub (by decide))
                  have bat2_1617 : (0 : Int) ≤ at2_1617 ∧ at2_1617 ≤ 3002 := e1625 ▸ hW1622.1 10
                  have bfk2_1618 : (0 : Int) ≤ fk2_1618 ∧ fk2_1618 ≤ 6 := e1626 ▸ hW1622.1 16
                  have bop2_1619 : (-2147483648 : Int) ≤ op2_1619 ∧ op2_1619 ≤ 2147483647 := e1627 ▸ hW1622.1 15
                  have bnd2_1620 : (0 : Int) ≤ nd2_1620 ∧ nd2_1620 ≤ 6999 := e1628 ▸ hW1622.1 31
                  have ztk2_1621 := tz_b tk2_1621
                  have btk2_1621 : (0 : Int) ≤ tk2_1621 ∧ tk2_1621 ≤ 5 := e1629 ▸ hW1622.1 11
                  refine .inr ⟨_, rfl, ?_⟩
                  rcases q1636 with ⟨a1638, a1639, a1640⟩ | ⟨a1641, a1642, a1643⟩
                  · have _q : True := trivial
                    refine jx_ld (pc' := 99) (l' := jSto1 L1607 5 (.int (i32 (r1616)))) (st' := []) rfl rfl ?_
                    obtain ⟨L1644, eL1644⟩ : ∃ q, q = jSto1 L1607 5 (.int (i32 (r1616))) := ⟨_, rfl⟩
                    rw [← eL1644]
                    have gL1644_0 : jGet L1644 0 = some (.ref 66) := eL1644 ▸ jg_ne (by decide) gL1607_0 rfl
                    have gL1644_1 : jGet L1644 1 = some (.int (i32 (r1501))) := eL1644 ▸ jg_ne (by decide) gL1607_1 rfl
                    have gL1644_2 : jGet L1644 2 = some (.int (i32 (0))) := eL1644 ▸ jg_ne (by decide) gL1607_2 rfl
                    have gL1644_3 : jGet L1644 3 = some (.int (i32 (G 12))) := eL1644 ▸ jg_ne (by decide) gL1607_3 rfl
                    have gL1644_4 : jGet L1644 4 = some (.int (i32 (r1559))) := eL1644 ▸ jg_ne (by decide) gL1607_4 rfl
                    have gL1644_6 : jGet L1644 6 = some (.int (i32 (1))) := eL1644 ▸ jg_ne (by decide) gL1607_6 rfl
                    have gL1644_5 : jGet L1644 5 = some (.int (i32 (r1616))) := eL1644 ▸ jg_eq
                    refine jx_ld (pc' := 100) (l' := L1644) (st' := [.ref 66]) rfl (jl_aloadn gL1644_0) ?_
                    refine jx_vr (pc' := 103) (as := []) (st := []) rfl rfl rfl rfl ⟨rfl, rfl, Nat.le_of_ble_eq_true rfl⟩ rfl rfl (c_bad (dd := d) (hd := by omega) (hW := hW1622)  (fk := fk2_1618) (e_fk := show G1614 16 = fk2_1618 from (e1626))    ) (fun o V' hq => ?_)
                    obtain ⟨r1645, rfl, rfl, b1646, q1647⟩ := hq
                    refine .inr ⟨_, rfl, ?_⟩
                    rcases q1647 with ⟨rfl, a1648⟩ | ⟨rfl, a1649⟩
                    · have _q : True := trivial
                      refine jx_if_eq (pc' := 106) (tg := 108) rfl rfl rfl (by omega) (by omega) (fun h1650 => ?_) (fun h1650 => ?_)
                      · have _q := h1650
                        exact absurd h1650 (by omega)
                      · have _q := h1650
                        refine jx_ar (pc' := 107) (st' := [.int (i32 (0))]) rfl rfl rfl rfl ?_
                        refine jx_rt (v := some (.int (i32 (0)))) rfl rfl rfl rfl rfl rfl ?_
                        exact ⟨_, _, _, at2_1617, fk2_1618, nd2_1620, ln, rfl, rfl, hW1622, hF1637, by omega, (e1625), (e1626), (e1628), ((hF1623.1 9 rfl).trans ((hF1591.1 9 rfl).trans ((hF1562.1 9 rfl).trans ((hF1504.1 9 rfl).trans (e_ln))))), by omega, by omega, by omega, by omega, by omega, by first | exact Or.inl (⟨by omega, by omega, by omega⟩) | exact Or.inr ((⟨by omega, by omega, by omega⟩))⟩
                    · have _q : True := trivial
                      exfalso
                      omega
                  · have _q : True := trivial
                    refine jx_ld (pc' := 99) (l' := jSto1 L1607 5 (.int (i32 (r1616)))) (st' := []) rfl rfl ?_
                    obtain ⟨L1651, eL1651⟩ : ∃ q, q = jSto1 L1607 5 (.int (i32 (r1616))) := ⟨_, rfl⟩
                    rw [← eL1651]
                    have gL1651_0 : jGet L1651 0 = some (.ref 66) := eL1651 ▸ jg_ne (by decide) gL1607_0 rfl
                    have gL1651_1 : jGet L1651 1 = some (.int (i32 (r1501))) := eL1651 ▸ jg_ne (by decide) gL1607_1 rfl
                    have gL1651_2 : jGet L1651 2 = some (.int (i32 (0))) := eL1651 ▸ jg_ne (by decide) gL1607_2 rfl
                    have gL1651_3 : jGet L1651 3 = some (.int (i32 (G 12))) := eL1651 ▸ jg_ne (by decide) gL1607_3 rfl
                    have gL1651_4 : jGet L1651 4 = some (.int (i32 (r1559))) := eL1651 ▸ jg_ne (by decide) gL1607_4 rfl
                    have gL1651_6 : jGet L1651 6 = some (.int (i32 (1))) := eL1651 ▸ jg_ne (by decide) gL1607_6 rfl
                    have gL1651_5 : jGet L1651 5 = some (.int (i32 (r1616))) := eL1651 ▸ jg_eq
                    refine jx_ld (pc' := 100) (l' := L1651) (st' := [.ref 66]) rfl (jl_aloadn gL1651_0) ?_
                    refine jx_vr (pc' := 103) (as := []) (st := []) rfl rfl rfl rfl ⟨rfl, rfl, Nat.le_of_ble_eq_true rfl⟩ rfl rfl (c_bad (dd := d) (hd := by omega) (hW := hW1622)  (fk := fk2_1618) (e_fk := show G1614 16 = fk2_1618 from (e1626))    ) (fun o V' hq => ?_)
                    obtain ⟨r1652, rfl, rfl, b1653, q1654⟩ := hq
                    refine .inr ⟨_, rfl, ?_⟩
                    rcases q1654 with ⟨rfl, a1655⟩ | ⟨rfl, a1656⟩
                    · have _q : True := trivial
                      exfalso
                      omega
                    · have _q : True := trivial
                      refine jx_if_eq (pc' := 106) (tg := 108) rfl rfl rfl (by omega) (by omega) (fun h1657 => ?_) (fun h1657 => ?_)
                      · have _q := h1657
                        have z1658 := tz_f (tk2_1621)
                        exact at_108 L1651 G1614 A1615 (r1501) (G 12) (r1559) (r1616) (1) (at2_1617) (tk2_1621) (fk2_1618) (nd2_1620) (op2_1619) gL1651_0 gL1651_1 gL1651_3 gL1651_4 gL1651_5 gL1651_6 hW1622 hF1637 ((e1625)) ((e1629)) ((e1626)) ((e1628)) ((e1627)) (((hF1623.1 9 rfl).trans ((hF1591.1 9 rfl).trans ((hF1562.1 9 rfl).trans ((hF1504.1 9 rfl).trans (e_ln)))))) (by omega) (by omega) (by omega) (by omega) (by omega) (by omega) (by omega) (by omega) (by omega) (by omega) (by omega) (by omega) (by omega) (by omega) (by omega)
                      · have _q := h1657
                        exact absurd h1657 (by omega)
                · have _q := h1613
                  exact absurd h1613 (by omega)
              · have _q : True := trivial
                refine jx_if_ne (pc' := 74) (tg := 93) rfl rfl rfl (by omega) (by omega) (fun h1659 => ?_) (fun h1659 => ?_)
                · have _q := h1659
                  exact absurd h1659 (by omega)
                · have _q := h1659
                  refine jx_ld (pc' := 75) (l' := L1607) (st' := [.ref 66]) rfl (jl_aloadn gL1607_0) ?_
                  refine jr_get (pc' := 78) (i := 21) (v := .ref 74) rfl rfl (by decide) rfl rfl ?_
                  refine jx_ld (pc' := 80) (l' := L1607) (st' := [.int (i32 (r1559)), .ref 74]) rfl (jl_iload gL1607_4) ?_
                  refine jr_ldv (pc' := 81) (i := 7) (m := 260) (z := r1559) (y := A 7 (r1559).toNat) rfl (by decide) rfl (by decide) (by omega) (by omega) rfl (show A1587 7 (r1559).toNat = A 7 (r1559).toNat from (congrFun ((hF1591.2 7 rfl).trans ((hF1562.2 7 rfl).trans (hF1504.2 7 rfl))) _)) ?_
                  refine jx_ar (pc' := 82) (st' := [.int (i32 (4)), .int (i32 (A 7 (r1559).toNat))]) rfl rfl rfl rfl ?_
                  refine jx_icmp_eq (pc' := 85) (tg := 93) rfl rfl rfl (by omega) (by omega) (by omega) (by omega) (fun h1660 => ?_) (fun h1660 => ?_)
                  · have _q := h1660
                    refine jx_ld (pc' := 94) (l' := L1607) (st' := [.ref 66]) rfl (jl_aloadn gL1607_0) ?_
                    refine jx_vr (pc' := 97) (as := []) (st := []) rfl rfl rfl rfl ⟨rfl, rfl, Nat.le_of_ble_eq_true rfl⟩ rfl rfl (c_readIndex (dd := d) (k := 9) (hE := RE_all X 9) (hd := by omega) (hW := hW1590)  (ln := ln) (e_ln := show G1586 9 = ln from ((hF1591.1 9 rfl).trans ((hF1562.1 9 rfl).trans ((hF1504.1 9 rfl).trans (e_ln))))) (le := le) (e_le := show A1587 4 (ln).toNat = le from (congrFun ((hF1591.2 4 rfl).trans ((hF1562.2 4 rfl).trans (hF1504.2 4 rfl))) _).trans (e_le)) (at0 := at2_1588) (e_at0 := show G1586 10 = at2_1588 from (e1592)) (fk := fk2_1560) (e_fk := show G1586 16 = fk2_1560 from ((hF1591.1 16 rfl).trans (e1564))) (op0 := op0) (e_op0 := show G1586 15 = op0 from ((hF1591.1 15 rfl).trans ((hF1562.1 15 rfl).trans ((hF1504.1 15 rfl).trans (e_op0))))) (nd := nd2_1502) (e_nd := show G1586 31 = nd2_1502 from ((hF1591.1 31 rfl).trans ((hF1562.1 31 rfl).trans (e1506)))) (tk0 := tk2_1589) (e_tk0 := show G1586 11 = tk2_1589 from (e1593))    (p_0 := by omega) (p_1 := by omega) (p_2 := by omega) (p_3 := by omega) (p_4 := by omega) (p_5 := by omega) (p_6 := by omega) (p_7 := by omega) (p_8 := by omega)) (fun o V' hq => ?_)
                    obtain ⟨G1661, A1662, r1663, at2_1664, fk2_1665, op2_1666, nd2_1667, tk2_1668, rfl, rfl, hW1669, hF1670, b1671, e1672, e1673, e1674, e1675, e1676, p1677, p1678, p1679, p1680, p1681, p1682, q1683⟩ := hq
                    have hF1684 := Fr_tr hF1598 hF1670 (Fr_sub (by decide)) (Fr_sub (by decide))
                    have bat2_1664 : (0 : Int) ≤ at2_1664 ∧ at2_1664 ≤ 3002 := e1672 ▸ hW1669.1 10
                    have bfk2_1665 : (0 : Int) ≤ fk2_1665 ∧ fk2_1665 ≤ 6 := e1673 ▸ hW1669.1 16
                    have bop2_1666 : (-2147483648 : Int) ≤ op2_1666 ∧ op2_1666 ≤ 2147483647 := e1674 ▸ hW1669.1 15
                    have bnd2_1667 : (0 : Int) ≤ nd2_1667 ∧ nd2_1667 ≤ 6999 := e1675 ▸ hW1669.1 31
                    have ztk2_1668 := tz_b tk2_1668
                    have btk2_1668 : (0 : Int) ≤ tk2_1668 ∧ tk2_1668 ≤ 5 := e1676 ▸ hW1669.1 11
                    refine .inr ⟨_, rfl, ?_⟩
                    rcases q1683 with ⟨a1685, a1686, a1687⟩ | ⟨a1688, a1689, a1690⟩
                    · have _q : True := trivial
                      refine jx_ld (pc' := 99) (l' := jSto1 L1607 5 (.int (i32 (r1663)))) (st' := []) rfl rfl ?_
                      obtain ⟨L1691, eL1691⟩ : ∃ q, q = jSto1 L1607 5 (.int (i32 (r1663))) := ⟨_, rfl⟩
                      rw [← eL1691]
                      have gL1691_0 : jGet L1691 0 = some (.ref 66) := eL1691 ▸ jg_ne (by decide) gL1607_0 rfl
                      have gL1691_1 : jGet L1691 1 = some (.int (i32 (r1501))) := eL1691 ▸ jg_ne (by decide) gL1607_1 rfl
                      have gL1691_2 : jGet L1691 2 = some (.int (i32 (0))) := eL1691 ▸ jg_ne (by decide) gL1607_2 rfl
                      have gL1691_3 : jGet L1691 3 = some (.int (i32 (G 12))) := eL1691 ▸ jg_ne (by decide) gL1607_3 rfl
                      have gL1691_4 : jGet L1691 4 = some (.int (i32 (r1559))) := eL1691 ▸ jg_ne (by decide) gL1607_4 rfl
                      have gL1691_6 : jGet L1691 6 = some (.int (i32 (1))) := eL1691 ▸ jg_ne (by decide) gL1607_6 rfl
                      have gL1691_5 : jGet L1691 5 = some (.int (i32 (r1663))) := eL1691 ▸ jg_eq
                      refine jx_ld (pc' := 100) (l' := L1691) (st' := [.ref 66]) rfl (jl_aloadn gL1691_0) ?_
                      refine jx_vr (pc' := 103) (as := []) (st := []) rfl rfl rfl rfl ⟨rfl, rfl, Nat.le_of_ble_eq_true rfl⟩ rfl rfl (c_bad (dd := d) (hd := by omega) (hW := hW1669)  (fk := fk2_1665) (e_fk := show G1661 16 = fk2_1665 from (e1673))    ) (fun o V' hq => ?_)
                      obtain ⟨r1692, rfl, rfl, b1693, q1694⟩ := hq
                      refine .inr ⟨_, rfl, ?_⟩
                      rcases q1694 with ⟨rfl, a1695⟩ | ⟨rfl, a1696⟩
                      · have _q : True := trivial
                        refine jx_if_eq (pc' := 106) (tg := 108) rfl rfl rfl (by omega) (by omega) (fun h1697 => ?_) (fun h1697 => ?_)
                        · have _q := h1697
                          exact absurd h1697 (by omega)
                        · have _q := h1697
                          refine jx_ar (pc' := 107) (st' := [.int (i32 (0))]) rfl rfl rfl rfl ?_
                          refine jx_rt (v := some (.int (i32 (0)))) rfl rfl rfl rfl rfl rfl ?_
                          exact ⟨_, _, _, at2_1664, fk2_1665, nd2_1667, ln, rfl, rfl, hW1669, hF1684, by omega, (e1672), (e1673), (e1675), ((hF1670.1 9 rfl).trans ((hF1591.1 9 rfl).trans ((hF1562.1 9 rfl).trans ((hF1504.1 9 rfl).trans (e_ln))))), by omega, by omega, by omega, by omega, by omega, by first | exact Or.inl (⟨by omega, by omega, by omega⟩) | exact Or.inr ((⟨by omega, by omega, by omega⟩))⟩
                      · have _q : True := trivial
                        exfalso
                        omega
                    · have _q : True := trivial
                      refine jx_ld (pc' := 99) (l' := jSto1 L1607 5 (.int (i32 (r1663)))) (st' := []) rfl rfl ?_
                      obtain ⟨L1698, eL1698⟩ : ∃ q, q = jSto1 L1607 5 (.int (i32 (r1663))) := ⟨_, rfl⟩
                      rw [← eL1698]
                      have gL1698_0 : jGet L1698 0 = some (.ref 66) := eL1698 ▸ jg_ne (by decide) gL1607_0 rfl
                      have gL1698_1 : jGet L1698 1 = some (.int (i32 (r1501))) := eL1698 ▸ jg_ne (by decide) gL1607_1 rfl
                      have gL1698_2 : jGet L1698 2 = some (.int (i32 (0))) := eL1698 ▸ jg_ne (by decide) gL1607_2 rfl
                      have gL1698_3 : jGet L1698 3 = some (.int (i32 (G 12))) := eL1698 ▸ jg_ne (by decide) gL1607_3 rfl
                      have gL1698_4 : jGet L1698 4 = some (.int (i32 (r1559))) := eL1698 ▸ jg_ne (by decide) gL1607_4 rfl
                      have gL1698_6 : jGet L1698 6 = some (.int (i32 (1))) := eL1698 ▸ jg_ne (by decide) gL1607_6 rfl
                      have gL1698_5 : jGet L1698 5 = some (.int (i32 (r1663))) := eL1698 ▸ jg_eq
                      refine jx_ld (pc' := 100) (l' := L1698) (st' := [.ref 66]) rfl (jl_aloadn gL1698_0) ?_
                      refine jx_vr (pc' := 103) (as := []) (st := []) rfl rfl rfl rfl ⟨rfl, rfl, Nat.le_of_ble_eq_true rfl⟩ rfl rfl (c_bad (dd := d) (hd := by omega) (hW := hW1669)  (fk := fk2_1665) (e_fk := show G1661 16 = fk2_1665 from (e1673))    ) (fun o V' hq => ?_)
                      obtain ⟨r1699, rfl, rfl, b1700, q1701⟩ := hq
                      refine .inr ⟨_, rfl, ?_⟩
                      rcases q1701 with ⟨rfl, a1702⟩ | ⟨rfl, a1703⟩
                      · have _q : True := trivial
                        exfalso
                        omega
                      · have _q : True := trivial
                        refine jx_if_eq (pc' := 106) (tg := 108) rfl rfl rfl (by omega) (by omega) (fun h1704 => ?_) (fun h1704 => ?_)
                        · have _q := h1704
                          have z1705 := tz_f (tk2_1668)
                          exact at_108 L1698 G1661 A1662 (r1501) (G 12) (r1559) (r1663) (1) (at2_1664) (tk2_1668) (fk2_1665) (nd2_1667) (op2_1666) gL1698_0 gL1698_1 gL1698_3 gL1698_4 gL1698_5 gL1698_6 hW1669 hF1684 ((e1672)) ((e1676)) ((e1673)) ((e1675)) ((e1674)) (((hF1670.1 9 rfl).trans ((hF1591.1 9 rfl).trans ((hF1562.1 9 rfl).trans ((hF1504.1 9 rfl).trans (e_ln)))))) (by omega) (by omega) (by omega) (by omega) (by omega) (by omega) (by omega) (by omega) (by omega) (by omega) (by omega) (by omega) (by omega) (by omega) (by omega)
                        · have _q := h1704
                          exact absurd h1704 (by omega)
                  · have _q := h1660
                    refine jx_ld (pc' := 86) (l' := L1607) (st' := [.ref 66]) rfl (jl_aloadn gL1607_0) ?_
                    refine jx_ar (pc' := 87) (st' := [.int (i32 (4)), .ref 66]) rfl rfl rfl rfl ?_
                    refine jx_ld (pc' := 88) (l' := L1607) (st' := [.int (i32 (G 12)), .int (i32 (4)), .ref 66]) rfl (jl_iloadn gL1607_3) ?_
                    refine jx_vr (pc' := 91) (as := [.int (i32 (4)), .int (i32 (G 12))]) (st := []) rfl rfl rfl rfl ⟨rfl, rfl, Nat.le_of_ble_eq_true rfl⟩ rfl rfl (c_fail (dd := d) (hd := by omega) (hW := hW1590) (kind := 4) (place := G 12) (fk := fk2_1560) (e_fk := show G1586 16 = fk2_1560 from ((hF1591.1 16 rfl).trans (e1564)))  (h_kind := by omega) (h_place := by omega)  (p_0 := by omega) (p_1 := by omega)) (fun o V' hq => ?_)
                    obtain ⟨G1706, A1707, fk2_1708, rfl, rfl, hW1709, hF1710, e1711, p1712, -⟩ := hq
                    have hF1714 := Fr_tr hF1598 hF1710 (Fr_sub (by decide)) (Fr_sub (by decide))
                    have bfk2_1708 : (0 : Int) ≤ fk2_1708 ∧ fk2_1708 ≤ 6 := e1711 ▸ hW1709.1 16
                    refine .inl ⟨rfl, ?_⟩
                    refine jx_ar (pc' := 92) (st' := [.int (i32 (0))]) rfl rfl rfl rfl ?_
                    refine jx_rt (v := some (.int (i32 (0)))) rfl rfl rfl rfl rfl rfl ?_
                    exact ⟨_, _, _, at2_1588, fk2_1708, nd2_1502, ln, rfl, rfl, hW1709, hF1714, by omega, ((hF1710.1 10 rfl).trans (e1592)), (e1711), ((hF1710.1 31 rfl).trans ((hF1591.1 31 rfl).trans ((hF1562.1 31 rfl).trans (e1506)))), ((hF1710.1 9 rfl).trans ((hF1591.1 9 rfl).trans ((hF1562.1 9 rfl).trans ((hF1504.1 9 rfl).trans (e_ln))))), by omega, by omega, by omega, by omega, by omega, by first | exact Or.inl (⟨by omega, by omega, by omega⟩) | exact Or.inr ((⟨by omega, by omega, by omega⟩))⟩
          · have _q : True := trivial
            refine jx_ld (pc' := 56) (l' := jSto1 L1599 6 (.int (i32 (0)))) (st' := []) rfl rfl ?_
            obtain ⟨L1715, eL1715⟩ : ∃ q, q = jSto1 L1599 6 (.int (i32 (0))) := ⟨_, rfl⟩
            rw [← eL1715]
            have gL1715_0 : jGet L1715 0 = some (.ref 66) := eL1715 ▸ jg_ne (by decide) gL1599_0 rfl
            have gL1715_1 : jGet L1715 1 = some (.int (i32 (r1501))) := eL1715 ▸ jg_ne (by decide) gL1599_1 rfl
            have gL1715_2 : jGet L1715 2 = some (.int (i32 (0))) := eL1715 ▸ jg_ne (by decide) gL1599_2 rfl
            have gL1715_3 : jGet L1715 3 = some (.int (i32 (G 12))) := eL1715 ▸ jg_ne (by decide) gL1599_3 rfl
            have gL1715_4 : jGet L1715 4 = some (.int (i32 (r1559))) := eL1715 ▸ jg_ne (by decide) gL1599_4 rfl
            have gL1715_5 : jGet L1715 5 = some (.int (i32 (0))) := eL1715 ▸ jg_ne (by decide) gL1599_5 rfl
            have gL1715_6 : jGet L1715 6 = some (.int (i32 (0))) := eL1715 ▸ jg_eq
            refine jx_ld (pc' := 58) (l' := L1715) (st' := [.int (i32 (0))]) rfl (jl_iload gL1715_6) ?_
            refine jx_if_eq (pc' := 61) (tg := 99) rfl rfl rfl (by omega) (by omega) (fun h1716 => ?_) (fun h1716 => ?_)
            · have _q := h1716
              refine jx_ld (pc' := 100) (l' := L1715) (st' := [.ref 66]) rfl (jl_aloadn gL1715_0) ?_
              refine jx_vr (pc' := 103) (as := []) (st := []) rfl rfl rfl rfl ⟨rfl, rfl, Nat.le_of_ble_eq_true rfl⟩ rfl rfl (c_bad (dd := d) (hd := by omega) (hW := hW1590)  (fk := fk2_1560) (e_fk := show G1586 16 = fk2_1560 from ((hF1591.1 16 rfl).trans (e1564)))    ) (fun o V' hq => ?_)
              obtain ⟨r1717, rfl, rfl, b1718, q1719⟩ := hq
              refine .inr ⟨_, rfl, ?_⟩
              rcases q1719 with ⟨rfl, a1720⟩ | ⟨rfl, a1721⟩
              · have _q : True := trivial
                exfalso
                omega
              · have _q : True := trivial
                refine jx_if_eq (pc' := 106) (tg := 108) rfl rfl rfl (by omega) (by omega) (fun h1722 => ?_) (fun h1722 => ?_)
                · have _q := h1722
                  have z1723 := tz_f (tk2_1589)
                  exact at_108 L1715 G1586 A1587 (r1501) (G 12) (r1559) (0) (0) (at2_1588) (tk2_1589) (fk2_1560) (nd2_1502) (op0) gL1715_0 gL1715_1 gL1715_3 gL1715_4 gL1715_5 gL1715_6 hW1590 hF1598 ((e1592)) ((e1593)) (((hF1591.1 16 rfl).trans (e1564))) (((hF1591.1 31 rfl).trans ((hF1562.1 31 rfl).trans (e1506)))) (((hF1591.1 15 rfl).trans ((hF1562.1 15 rfl).trans ((hF1504.1 15 rfl).trans (e_op0))))) (((hF1591.1 9 rfl).trans ((hF1562.1 9 rfl).trans ((hF1504.1 9 rfl).trans (e_ln))))) (by omega) (by omega) (by omega) (by omega) (by omega) (by omega) (by omega) (by omega) (by omega) (by omega) (by omega) (by omega) (by omega) (by omega) (by omega)
                · have _q := h1722
                  exact absurd h1722 (by omega)
            · have _q := h1716
              exact absurd h1716 (by omega)
        · have _q := h1585
          exact absurd h1585 (by omega)
