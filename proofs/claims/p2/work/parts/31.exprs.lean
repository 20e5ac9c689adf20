def RE (X : jX) (k : Nat) : Prop := ∀ ⦃dd : Nat⦄ ⦃c0 c1 : jC⦄ ⦃G : Nat → Int⦄ ⦃A : Nat → Nat → Int⦄ ⦃T : jH⦄ ⦃ln le at0 fk op0 nd tk0 : Int⦄ (hd : 6 * k + 10 ≤ dd) (hW : Wk G A) (e_ln : G 9 = ln) (e_le : A 4 (ln).toNat = le) (e_at0 : G 10 = at0) (e_fk : G 16 = fk) (e_op0 : G 15 = op0) (e_nd : G 31 = nd) (e_tk0 : G 11 = tk0) (p_0 : 0 ≤ op0) (p_1 : op0 ≤ 9) (p_2 : op0 ≤ 8 ∨ 1 ≤ fk) (p_3 : 9 - op0 ≤ (k : Int) ∨ 1 ≤ fk) (p_4 : nd ≤ 2 * at0 - tz tk0 + 50) (p_5 : at0 ≤ le), wk X dd 286 [.ref 66] (rV c0 c1 G A T) (fun o V' => ∃ (G' : Nat → Int) (A' : Nat → Nat → Int) (r : Int) (at2 : Int) (fk2 : Int) (op2 : Int) (nd2 : Int) (tk2 : Int), V' = rV c0 c1 G' A' T ∧ o = .inl (some (.int (i32 r))) ∧ Wk G' A' ∧ Fr [10, 11, 12, 13, 14, 15, 16, 17, 18, 31] [15, 16, 17, 18, 19, 20, 21, 22, 24, 28] G A G' A' ∧ Pf nd A A' ∧ ((-2147483648 : Int) ≤ r ∧ r ≤ 2147483647) ∧ G' 10 = at2 ∧ G' 16 = fk2 ∧ G' 15 = op2 ∧ G' 31 = nd2 ∧ G' 11 = tk2 ∧ (at0 ≤ at2) ∧ (at2 ≤ le) ∧ (nd ≤ nd2) ∧ (op2 = op0) ∧ (0 ≤ r) ∧ (r ≤ nd2) ∧ (((1 ≤ fk) ∧ (1 ≤ fk2) ∧ (nd2 = nd) ∧ (at2 = at0) ∧ (tk2 = tk0) ∧ (tz tk2 = tz tk0)) ∨ ((fk = 0) ∧ (1 ≤ fk2) ∧ (nd2 - nd ≤ (2 * at2 - tz tk2) - (2 * at0 - tz tk0) + 1)) ∨ ((fk = 0) ∧ (fk2 = 0) ∧ (nd2 - nd ≤ (2 * at2 - tz tk2) - (2 * at0 - tz tk0)))))
set_option maxRecDepth 20000 in
set_option maxHeartbeats 4000000 in
theorem c_readIndex {X : jX} {k : Nat} (hE : RE X k) {dd : Nat} {c0 c1 : jC} {G : Nat → Int} {A : Nat → Nat → Int} {T : jH} {ln le at0 fk op0 nd tk0 : Int} (hd : 6 * k + 12 ≤ dd) (hW : Wk G A) (e_ln : G 9 = ln) (e_le : A 4 (ln).toNat = le) (e_at0 : G 10 = at0) (e_fk : G 16 = fk) (e_op0 : G 15 = op0) (e_nd : G 31 = nd) (e_tk0 : G 11 = tk0) (p_0 : 0 ≤ op0) (p_1 : op0 ≤ 9) (p_2 : op0 ≤ 8 ∨ 1 ≤ fk) (p_3 : 9 - op0 ≤ ((k + 1 : Nat) : Int) ∨ 1 ≤ fk) (p_4 : nd ≤ 2 * at0 - tz tk0 + 50) (p_5 : at0 ≤ le) (p_6 : 1 ≤ tk0) (p_7 : op0 ≤ 8) (p_8 : fk = 0) : wk X dd 284 [.ref 66] (rV c0 c1 G A T) (fun o V' => ∃ (G' : Nat → Int) (A' : Nat → Nat → Int) (r : Int) (at2 : Int) (fk2 : Int) (op2 : Int) (nd2 : Int) (tk2 : Int), V' = rV c0 c1 G' A' T ∧ o = .inl (some (.int (i32 r))) ∧ Wk G' A' ∧ Fr [10, 11, 12, 13, 14, 15, 16, 17, 18, 31] [15, 16, 17, 18, 19, 20, 21, 22, 24, 28] G A G' A' ∧ Pf nd A A' ∧ ((-2147483648 : Int) ≤ r ∧ r ≤ 2147483647) ∧ G' 10 = at2 ∧ G' 16 = fk2 ∧ G' 15 = op2 ∧ G' 31 = nd2 ∧ G' 11 = tk2 ∧ (at0 ≤ at2) ∧ (at2 ≤ le) ∧ (nd ≤ nd2) ∧ (op2 = op0) ∧ (0 ≤ r) ∧ (r ≤ nd2) ∧ (((fk = 0) ∧ (1 ≤ fk2) ∧ (nd2 - nd ≤ (2 * at2 - tz tk2) - (2 * at0 - tz tk0) + 1)) ∨ ((fk = 0) ∧ (fk2 = 0) ∧ (nd2 - nd ≤ (2 * at2 - tz tk2) - (2 * at0 - tz tk0))))) := by
  obtain ⟨d, rfl⟩ : ∃ d, dd = d + 1 := ⟨dd - 1, by omega⟩
  refine wk_of (e := jm284) rfl (Nat.le_of_ble_eq_true rfl) ?_
  show wj X d jm284 (0, [(0, .ref 66)], [], rV c0 c1 G A T) _
  have hF0 : Fr [10, 11, 12, 13, 14, 15, 16, 17, 18, 31] [15, 16, 17, 18, 19, 20, 21, 22, 24, 28] G A G A := Fr_rf
  have hP0 : Pf nd A A := Pf_rf
  have b_ln : (0 : Int) ≤ ln ∧ ln ≤ 3000 := e_ln ▸ hW.1 9
  have b_le : (0 : Int) ≤ le ∧ le ≤ 3000 := e_le ▸ hW.2 4 _
  have b_at0 : (0 : Int) ≤ at0 ∧ at0 ≤ 3002 := e_at0 ▸ hW.1 10
  have b_fk : (0 : Int) ≤ fk ∧ fk ≤ 6 := e_fk ▸ hW.1 16
  have b_op0 : (-2147483648 : Int) ≤ op0 ∧ op0 ≤ 2147483647 := e_op0 ▸ hW.1 15
  have b_nd : (0 : Int) ≤ nd ∧ nd ≤ 6999 := e_nd ▸ hW.1 31
  have z_tk0 := tz_f tk0
  have b_tk0 : (0 : Int) ≤ tk0 ∧ tk0 ≤ 5 := e_tk0 ▸ hW.1 11
  refine jx_ld (pc' := 1) (l' := [(0, .ref 66)]) (st' := [.ref 66]) rfl (jl_aloadn rfl) ?_
  refine jx_vr (pc' := 4) (as := []) (st := []) rfl rfl rfl rfl ⟨rfl, rfl, Nat.le_of_ble_eq_true rfl⟩ rfl rfl (c_open (dd := d) (hd := by omega) (hW := hW)  (fk := fk) (e_fk := show G 16 = fk from (e_fk)) (op0 := op0) (e_op0 := show G 15 = op0 from (e_op0))    (p_0 := by omega)) (fun o V' hq => ?_)
  obtain ⟨G1, A2, fk2_3, op2_4, rfl, rfl, hW5, hF6, e7, e8, p9, q10⟩ := hq
  have hF11 := Fr_tr hF0 hF6 (Fr_sub (by decide)) (Fr_sub (by decide))
  have hP12 := Pf_f hP0 hF6 (by decide)
  have bfk2_3 : (0 : Int) ≤ fk2_3 ∧ fk2_3 ≤ 6 := e7 ▸ hW5.1 16
  have bop2_4 : (-2147483648 : Int) ≤ op2_4 ∧ op2_4 ≤ 2147483647 := e8 ▸ hW5.1 15
  refine .inl ⟨rfl, ?_⟩
  rcases q10 with a13 | ⟨a14, a15, a16⟩
  · have _q : True := trivial
    refine jx_ld (pc' := 5) (l' := [(0, .ref 66)]) (st' := [.ref 66]) rfl (jl_aloadn rfl) ?_
    refine jx_ar (pc' := 6) (st' := [.int (i32 (1)), .ref 66]) rfl rfl rfl rfl ?_
    refine jx_vr (pc' := 9) (as := [.int (i32 (1))]) (st := []) rfl rfl rfl rfl ⟨rfl, rfl, Nat.le_of_ble_eq_true rfl⟩ rfl rfl (c_need (dd := d) (hd := by omega) (hW := hW5) (g := 1) (ln := ln) (e_ln := show G1 9 = ln from ((hF6.1 9 rfl).trans (e_ln))) (le := le) (e_le := show A2 4 (ln).toNat = le from (congrFun (hF6.2 4 rfl) _).trans (e_le)) (at0 := at0) (e_at0 := show G1 10 = at0 from ((hF6.1 10 rfl).trans (e_at0))) (fk := fk2_3) (e_fk := show G1 16 = fk2_3 from (e7)) (tk0 := tk0) (e_tk0 := show G1 11 = tk0 from ((hF6.1 11 rfl).trans (e_tk0)))  (h_g := ⟨(by decide), (by decide)⟩)  (p_0 := by omega)) (fun o V' hq => ?_)
    obtain ⟨G17, A18, at2_19, tk2_20, fk2_21, rfl, rfl, hW22, hF23, e24, e25, e26, p27, p28, q29⟩ := hq
    have hF30 := Fr_tr hF11 hF23 (Fr_sub (by decide)) (Fr_sub (by decide))
    have hP31 := Pf_f hP12 hF23 (by decide)
    have bat2_19 : (0 : Int) ≤ at2_19 ∧ at2_19 ≤ 3002 := e24 ▸ hW22.1 10
    have ztk2_20 := tz_b tk2_20
    have btk2_20 : (0 : Int) ≤ tk2_20 ∧ tk2_20 ≤ 5 := e25 ▸ hW22.1 11
    have bfk2_21 : (0 : Int) ≤ fk2_21 ∧ fk2_21 ≤ 6 := e26 ▸ hW22.1 16
    refine .inl ⟨rfl, ?_⟩
    rcases q29 with ⟨a32, a33, a34, a35⟩ | ⟨a36, a37, a38, a39⟩
    · have _q : True := trivial
      refine jx_ld (pc' := 10) (l' := [(0, .ref 66)]) (st' := [.ref 66]) rfl (jl_aloadn rfl) ?_
      refine jx_vr (pc' := 13) (as := []) (st := []) rfl rfl rfl rfl ⟨rfl, rfl, Nat.le_of_ble_eq_true rfl⟩ rfl rfl (hE (dd := d) (hd := by omega) (hW := hW22)  (ln := ln) (e_ln := show G17 9 = ln from ((hF23.1 9 rfl).trans ((hF6.1 9 rfl).trans (e_ln)))) (le := le) (e_le := show A18 4 (ln).toNat = le from (congrFun ((hF23.2 4 rfl).trans (hF6.2 4 rfl)) _).trans (e_le)) (at0 := at2_19) (e_at0 := show G17 10 = at2_19 from (e24)) (fk := fk2_21) (e_fk := show G17 16 = fk2_21 from (e26)) (op0 := op2_4) (e_op0 := show G17 15 = op2_4 from ((hF23.1 15 rfl).trans (e8))) (nd := nd) (e_nd := show G17 31 = nd from ((hF23.1 31 rfl).trans ((hF6.1 31 rfl).trans (e_nd)))) (tk0 := tk2_20) (e_tk0 := show G17 11 = tk2_20 from (e25))    (p_0 := by omega) (p_1 := by omega) (p_2 := by omega) (p_3 := by omega) (p_4 := by omega) (p_5 := by omega)) (fun o V' hq => ?_)
      obtain ⟨G40, A41, r42, at2_43, fk2_44, op2_45, nd2_46, tk2_47, rfl, rfl, hW48, hF49, hQ50, b51, e52, e53, e54, e55, e56, p57, p58, p59, p60, p61, p62, q63⟩ := hq
      have hF64 := Fr_tr hF30 hF49 (Fr_sub (by decide)) (Fr_sub (by decide))
      have hP65 := Pf_tr hP31 hQ50 (by omega)
      have bat2_43 : (0 : Int) ≤ at2_43 ∧ at2_43 ≤ 3002 := e52 ▸ hW48.1 10
      have bfk2_44 : (0 : Int) ≤ fk2_44 ∧ fk2_44 ≤ 6 := e53 ▸ hW48.1 16
      have bop2_45 : (-2147483648 : Int) ≤ op2_45 ∧ op2_45 ≤ 2147483647 := e54 ▸ hW48.1 15
      have bnd2_46 : (0 : Int) ≤ nd2_46 ∧ nd2_46 ≤ 6999 := e55 ▸ hW48.1 31
      have ztk2_47 := tz_b tk2_47
      have btk2_47 : (0 : Int) ≤ tk2_47 ∧ tk2_47 ≤ 5 := e56 ▸ hW48.1 11
      refine .inr ⟨_, rfl, ?_⟩
      rcases q63 with ⟨a66, a67, a68, a69, a70, a71⟩ | ⟨a72, a73, a74⟩ | ⟨a75, a76, a77⟩
      · have _q : True := trivial
        refine jx_ld (pc' := 14) (l' := jSto1 [(0, .ref 66)] 1 (.int (i32 (r42)))) (st' := []) rfl rfl ?_
        obtain ⟨L78, eL78⟩ : ∃ q, q = jSto1 [(0, .ref 66)] 1 (.int (i32 (r42))) := ⟨_, rfl⟩
        rw [← eL78]
        have gL78_0 : jGet L78 0 = some (.ref 66) := eL78 ▸ jg_ne (by decide) (rfl : jGet [(0, .ref 66)] 0 = some (.ref 66)) rfl
        have gL78_1 : jGet L78 1 = some (.int (i32 (r42))) := eL78 ▸ jg_eq
        refine jx_ld (pc' := 15) (l' := L78) (st' := [.ref 66]) rfl (jl_aloadn gL78_0) ?_
        refine jx_ld (pc' := 16) (l' := L78) (st' := [.ref 66, .ref 66]) rfl (jl_aloadn gL78_0) ?_
        refine jx_ar (pc' := 18) (st' := [.int (i32 (93)), .ref 66, .ref 66]) rfl rfl rfl rfl ?_
        have b79 : (-2147483648 : Int) ≤ G40 13 ∧ G40 13 ≤ 2147483647 := hW48.1 13
        refine jx_vr (pc' := 21) (as := [.int (i32 (93))]) (st := [.ref 66]) rfl rfl rfl rfl ⟨rfl, rfl, Nat.le_of_ble_eq_true rfl⟩ rfl rfl (c_is (dd := d) (hd := by omega) (hW := hW48) (k := 93) (tk := tk2_47) (e_tk := show G40 11 = tk2_47 from (e56)) (tn := G40 13) (e_tn := show G40 13 = G40 13 from rfl)  (h_k := ⟨(by decide), (by decide)⟩)  ) (fun o V' hq => ?_)
        obtain ⟨r80, rfl, rfl, b81, q82⟩ := hq
        refine .inr ⟨_, rfl, ?_⟩
        rcases q82 with ⟨rfl, a83, a84, a85⟩ | rfl
        · have _q : True := trivial
          refine jx_vr (pc' := 24) (as := [.int (i32 (1))]) (st := []) rfl rfl rfl rfl ⟨rfl, rfl, Nat.le_of_ble_eq_true rfl⟩ rfl rfl (c_need (dd := d) (hd := by omega) (hW := hW48) (g := 1) (ln := ln) (e_ln := show G40 9 = ln from ((hF49.1 9 rfl).trans ((hF23.1 9 rfl).trans ((hF6.1 9 rfl).trans (e_ln))))) (le := le) (e_le := show A41 4 (ln).toNat = le from (congrFun ((hF49.2 4 rfl).trans ((hF23.2 4 rfl).trans (hF6.2 4 rfl))) _).trans (e_le)) (at0 := at2_43) (e_at0 := show G40 10 = at2_43 from (e52)) (fk := fk2_44) (e_fk := show G40 16 = fk2_44 from (e53)) (tk0 := tk2_47) (e_tk0 := show G40 11 = tk2_47 from (e56))  (h_g := ⟨(by decide), (by decide)⟩)  (p_0 := by omega)) (fun o V' hq => ?_)
          obtain ⟨G86, A87, at2_88, tk2_89, fk2_90, rfl, rfl, hW91, hF92, e93, e94, e95, p96, p97, q98⟩ := hq
          have hF99 := Fr_tr hF64 hF92 (Fr_sub (by decide)) (Fr_sub (by decide))
          have hP100 := Pf_f hP65 hF92 (by decide)
          have bat2_88 : (0 : Int) ≤ at2_88 ∧ at2_88 ≤ 3002 := e93 ▸ hW91.1 10
          have ztk2_89 := tz_b tk2_89
          have btk2_89 : (0 : Int) ≤ tk2_89 ∧ tk2_89 ≤ 5 := e94 ▸ hW91.1 11
          have bfk2_90 : (0 : Int) ≤ fk2_90 ∧ fk2_90 ≤ 6 := e95 ▸ hW91.1 16
          refine .inl ⟨rfl, ?_⟩
          rcases q98 with ⟨a101, a102, a103, a104⟩ | ⟨a105, a106, a107, a108⟩
          · have _q : True := trivial
            refine jx_ld (pc' := 25) (l' := L78) (st' := [.ref 66]) rfl (jl_aloadn gL78_0) ?_
            refine jx_ar (pc' := 26) (st' := [.ref 66, .ref 66]) rfl rfl rfl rfl ?_
            refine jr_get (pc' := 29) (i := 15) (v := .int (i32 (op2_45))) rfl rfl (by decide) (rFv_eq (by decide) (show G86 15 = op2_45 from ((hF92.1 15 rfl).trans (e54)))) rfl ?_
            refine jx_ar (pc' := 30) (st' := [.int (i32 (1)), .int (i32 (op2_45)), .ref 66]) rfl rfl rfl rfl ?_
            refine jx_sub (pc' := 31) rfl rfl ?_
            refine jr_put (pc' := 34) (i := 15) (z := (op2_45 - 1)) rfl rfl (by decide) rfl rfl rfl rfl rfl rfl ?_
            have hW109 : Wk (uG G86 15 ((op2_45 - 1))) A87 := Wk_g hW91 (show (-2147483648 : Int) ≤ (op2_45 - 1) by omega) (show (op2_45 - 1) ≤ (2147483647 : Int) by omega)
            have hF110 := Fr_g (z := (op2_45 - 1)) (i := 15) hF99 (by decide)
            refine jx_ld (pc' := 35) (l' := L78) (st' := [.int (i32 (r42))]) rfl (jl_iloadn gL78_1) ?_
            refine jx_rt (v := some (.int (i32 (r42)))) rfl rfl rfl rfl rfl rfl ?_
            have z111 := tz_f (tk2_89)
            exact ⟨_, _, _, at2_88, fk2_90, (op2_45 - 1), nd2_46, tk2_89, rfl, rfl, hW109, hF110, hP100, by omega, (e93), (e95), rfl, ((hF92.1 31 rfl).trans (e55)), (e94), by omega, by omega, by omega, by omega, by omega, by omega, by first | exact Or.inl (⟨by omega, by omega, by omega⟩) | exact Or.inr ((⟨by omega, by omega, by omega⟩))⟩
          · have _q : True := trivial
            exfalso
            omega
        · have _q : True := trivial
          refine jx_vr (pc' := 24) (as := [.int (i32 (0))]) (st := []) rfl rfl rfl rfl ⟨rfl, rfl, Nat.le_of_ble_eq_true rfl⟩ rfl rfl (c_need (dd := d) (hd := by omega) (hW := hW48) (g := 0) (ln := ln) (e_ln := show G40 9 = ln from ((hF49.1 9 rfl).trans ((hF23.1 9 rfl).trans ((hF6.1 9 rfl).trans (e_ln))))) (le := le) (e_le := show A41 4 (ln).toNat = le from (congrFun ((hF49.2 4 rfl).trans ((hF23.2 4 rfl).trans (hF6.2 4 rfl))) _).trans (e_le)) (at0 := at2_43) (e_at0 := show G40 10 = at2_43 from (e52)) (fk := fk2_44) (e_fk := show G40 16 = fk2_44 from (e53)) (tk0 := tk2_47) (e_tk0 := show G40 11 = tk2_47 from (e56))  (h_g := ⟨(by decide), (by decide)⟩)  (p_0 := by omega)) (fun o V' hq => ?_)
          obtain ⟨G112, A113, at2_114, tk2_115, fk2_116, rfl, rfl, hW117, hF118, e119, e120, e121, p122, p123, q124⟩ := hq
          have hF125 := Fr_tr hF64 hF118 (Fr_sub (by decide)) (Fr_sub (by decide))
          have hP126 := Pf_f hP65 hF118 (by decide)
          have bat2_114 : (0 : Int) ≤ at2_114 ∧ at2_114 ≤ 3002 := e119 ▸ hW117.1 10
          have ztk2_115 := tz_b tk2_115
          have btk2_115 : (0 : Int) ≤ tk2_115 ∧ tk2_115 ≤ 5 := e120 ▸ hW117.1 11
          have bfk2_116 : (0 : Int) ≤ fk2_116 ∧ fk2_116 ≤ 6 := e121 ▸ hW117.1 16
          refine .inl ⟨rfl, ?_⟩
          rcases q124 with ⟨a127, a128, a129, a130⟩ | ⟨a131, a132, a133, a134⟩
          · have _q : True := trivial
            refine jx_ld (pc' := 25) (l' := L78) (st' := [.ref 66]) rfl (jl_aloadn gL78_0) ?_
            refine jx_ar (pc' := 26) (st' := [.ref 66, .ref 66]) rfl rfl rfl rfl ?_
            refine jr_get (pc' := 29) (i := 15) (v := .int (i32 (op2_45))) rfl rfl (by decide) (rFv_eq (by decide) (show G112 15 = op2_45 from ((hF118.1 15 rfl).trans (e54)))) rfl ?_
            refine jx_ar (pc' := 30) (st' := [.int (i32 (1)), .int (i32 (op2_45)), .ref 66]) rfl rfl rfl rfl ?_
            refine jx_sub (pc' := 31) rfl rfl ?_
            refine jr_put (pc' := 34) (i := 15) (z := (op2_45 - 1)) rfl rfl (by decide) rfl rfl rfl rfl rfl rfl ?_
            have hW135 : Wk (uG G112 15 ((op2_45 - 1))) A113 := Wk_g hW117 (show (-2147483648 : Int) ≤ (op2_45 - 1) by omega) (show (op2_45 - 1) ≤ (2147483647 : Int) by omega)
            have hF136 := Fr_g (z := (op2_45 - 1)) (i := 15) hF125 (by decide)
            refine jx_ld (pc' := 35) (l' := L78) (st' := [.int (i32 (r42))]) rfl (jl_iloadn gL78_1) ?_
            refine jx_rt (v := some (.int (i32 (r42)))) rfl rfl rfl rfl rfl rfl ?_
            have z137 := tz_f (tk2_115)
            exact ⟨_, _, _, at2_114, fk2_116, (op2_45 - 1), nd2_46, tk2_115, rfl, rfl, hW135, hF136, hP126, by omega, (e119), (e121), rfl, ((hF118.1 31 rfl).trans (e55)), (e120), by omega, by omega, by omega, by omega, by omega, by omega, by first | exact Or.inl (⟨by omega, by omega, by omega⟩) | exact Or.inr ((⟨by omega, by omega, by omega⟩))⟩
          · have _q : True := trivial
            exfalso
            omega
      · have _q : True := trivial
        exfalso
        omega
      · have _q : True := trivial
        exfalso
        omega
    · have _q : True := trivial
      exfalso
      omega
  · have _q : True := trivial
    refine jx_ld (pc' := 5) (l' := [(0, .ref 66)]) (st' := [.ref 66]) rfl (jl_aloadn rfl) ?_
    refine jx_ar (pc' := 6) (st' := [.int (i32 (1)), .ref 66]) rfl rfl rfl rfl ?_
    refine jx_vr (pc' := 9) (as := [.int (i32 (1))]) (st := []) rfl rfl rfl rfl ⟨rfl, rfl, Nat.le_of_ble_eq_true rfl⟩ rfl rfl (c_need (dd := d) (hd := by omega) (hW := hW5) (g := 1) (ln := ln) (e_ln := show G1 9 = ln from ((hF6.1 9 rfl).trans (e_ln))) (le := le) (e_le := show A2 4 (ln).toNat = le from (congrFun (hF6.2 4 rfl) _).trans (e_le)) (at0 := at0) (e_at0 := show G1 10 = at0 from ((hF6.1 10 rfl).trans (e_at0))) (fk := fk2_3) (e_fk := show G1 16 = fk2_3 from (e7)) (tk0 := tk0) (e_tk0 := show G1 11 = tk0 from ((hF6.1 11 rfl).trans (e_tk0)))  (h_g := ⟨(by decide), (by decide)⟩)  (p_0 := by omega)) (fun o V' hq => ?_)
    obtain ⟨G138, A139, at2_140, tk2_141, fk2_142, rfl, rfl, hW143, hF144, e145, e146, e147, p148, p149, q150⟩ := hq
    have hF151 := Fr_tr hF11 hF144 (Fr_sub (by decide)) (Fr_sub (by decide))
    have hP152 := Pf_f hP12 hF144 (by decide)
    have bat2_140 : (0 : Int) ≤ at2_140 ∧ at2_140 ≤ 3002 := e145 ▸ hW143.1 10
    have ztk2_141 := tz_b tk2_141
    have btk2_141 : (0 : Int) ≤ tk2_141 ∧ tk2_141 ≤ 5 := e146 ▸ hW143.1 11
    have bfk2_142 : (0 : Int) ≤ fk2_142 ∧ fk2_142 ≤ 6 := e147 ▸ hW143.1 16
    refine .inl ⟨rfl, ?_⟩
    rcases q150 with ⟨a153, a154, a155, a156⟩ | ⟨a157, a158, a159, a160⟩
    · have _q : True := trivial
      refine jx_ld (pc' := 10) (l' := [(0, .ref 66)]) (st' := [.ref 66]) rfl (jl_aloadn rfl) ?_
      refine jx_vr (pc' := 13) (as := []) (st := []) rfl rfl rfl rfl ⟨rfl, rfl, Nat.le_of_ble_eq_true rfl⟩ rfl rfl (hE (dd := d) (hd := by omega) (hW := hW143)  (ln := ln) (e_ln := show G138 9 = ln from ((hF144.1 9 rfl).trans ((hF6.1 9 rfl).trans (e_ln)))) (le := le) (e_le := show A139 4 (ln).toNat = le from (congrFun ((hF144.2 4 rfl).trans (hF6.2 4 rfl)) _).trans (e_le)) (at0 := at2_140) (e_at0 := show G138 10 = at2_140 from (e145)) (fk := fk2_142) (e_fk := show G138 16 = fk2_142 from (e147)) (op0 := op2_4) (e_op0 := show G138 15 = op2_4 from ((hF144.1 15 rfl).trans (e8))) (nd := nd) (e_nd := show G138 31 = nd from ((hF144.1 31 rfl).trans ((hF6.1 31 rfl).trans (e_nd)))) (tk0 := tk2_141) (e_tk0 := show G138 11 = tk2_141 from (e146))    (p_0 := by omega) (p_1 := by omega) (p_2 := by omega) (p_3 := by omega) (p_4 := by omega) (p_5 := by omega)) (fun o V' hq => ?_)
      obtain ⟨G161, A162, r163, at2_164, fk2_165, op2_166, nd2_167, tk2_168, rfl, rfl, hW169, hF170, hQ171, b172, e173, e174, e175, e176, e177, p178, p179, p180, p181, p182, p183, q184⟩ := hq
      have hF185 := Fr_tr hF151 hF170 (Fr_sub (by decide)) (Fr_sub (by decide))
      have hP186 := Pf_tr hP152 hQ171 (by omega)
      have bat2_164 : (0 : Int) ≤ at2_164 ∧ at2_164 ≤ 3002 := e173 ▸ hW169.1 10
      have bfk2_165 : (0 : Int) ≤ fk2_165 ∧ fk2_165 ≤ 6 := e174 ▸ hW169.1 16
      have bop2_166 : (-2147483648 : Int) ≤ op2_166 ∧ op2_166 ≤ 2147483647 := e175 ▸ hW169.1 15
      have bnd2_167 : (0 : Int) ≤ nd2_167 ∧ nd2_167 ≤ 6999 := e176 ▸ hW169.1 31
      have ztk2_168 := tz_b tk2_168
      have btk2_168 : (0 : Int) ≤ tk2_168 ∧ tk2_168 ≤ 5 := e177 ▸ hW169.1 11
      refine .inr ⟨_, rfl, ?_⟩
      rcases q184 with ⟨a187, a188, a189, a190, a191, a192⟩ | ⟨a193, a194, a195⟩ | ⟨a196, a197, a198⟩
      · have _q : True := trivial
        refine jx_ld (pc' := 14) (l' := jSto1 [(0, .ref 66)] 1 (.int (i32 (r163)))) (st' := []) rfl rfl ?_
        obtain ⟨L199, eL199⟩ : ∃ q, q = jSto1 [(0, .ref 66)] 1 (.int (i32 (r163))) := ⟨_, rfl⟩
        rw [← eL199]
        have gL199_0 : jGet L199 0 = some (.ref 66) := eL199 ▸ jg_ne (by decide) (rfl : jGet [(0, .ref 66)] 0 = some (.ref 66)) rfl
        have gL199_1 : jGet L199 1 = some (.int (i32 (r163))) := eL199 ▸ jg_eq
        refine jx_ld (pc' := 15) (l' := L199) (st' := [.ref 66]) rfl (jl_aloadn gL199_0) ?_
        refine jx_ld (pc' := 16) (l' := L199) (st' := [.ref 66, .ref 66]) rfl (jl_aloadn gL199_0) ?_
        refine jx_ar (pc' := 18) (st' := [.int (i32 (93)), .ref 66, .ref 66]) rfl rfl rfl rfl ?_
        have b200 : (-2147483648 : Int) ≤ G161 13 ∧ G161 13 ≤ 2147483647 := hW169.1 13
        refine jx_vr (pc' := 21) (as := [.int (i32 (93))]) (st := [.ref 66]) rfl rfl rfl rfl ⟨rfl, rfl, Nat.le_of_ble_eq_true rfl⟩ rfl rfl (c_is (dd := d) (hd := by omega) (hW := hW169) (k := 93) (tk := tk2_168) (e_tk := show G161 11 = tk2_168 from (e177)) (tn := G161 13) (e_tn := show G161 13 = G161 13 from rfl)  (h_k := ⟨(by decide), (by decide)⟩)  ) (fun o V' hq => ?_)
        obtain ⟨r201, rfl, rfl, b202, q203⟩ := hq
        refine .inr ⟨_, rfl, ?_⟩
        rcases q203 with ⟨rfl, a204, a205, a206⟩ | rfl
        · have _q : True := trivial
          refine jx_vr (pc' := 24) (as := [.int (i32 (1))]) (st := []) rfl rfl rfl rfl ⟨rfl, rfl, Nat.le_of_ble_eq_true rfl⟩ rfl rfl (c_need (dd := d) (hd := by omega) (hW := hW169) (g := 1) (ln := ln) (e_ln := show G161 9 = ln from ((hF170.1 9 rfl).trans ((hF144.1 9 rfl).trans ((hF6.1 9 rfl).trans (e_ln))))) (le := le) (e_le := show A162 4 (ln).toNat = le from (congrFun ((hF170.2 4 rfl).trans ((hF144.2 4 rfl).trans (hF6.2 4 rfl))) _).trans (e_le)) (at0 := at2_164) (e_at0 := show G161 10 = at2_164 from (e173)) (fk := fk2_165) (e_fk := show G161 16 = fk2_165 from (e174)) (tk0 := tk2_168) (e_tk0 := show G161 11 = tk2_168 from (e177))  (h_g := ⟨(by decide), (by decide)⟩)  (p_0 := by omega)) (fun o V' hq => ?_)
          obtain ⟨G207, A208, at2_209, tk2_210, fk2_211, rfl, rfl, hW212, hF213, e214, e215, e216, p217, p218, q219⟩ := hq
          have hF220 := Fr_tr hF185 hF213 (Fr_sub (by decide)) (Fr_sub (by decide))
          have hP221 := Pf_f hP186 hF213 (by decide)
          have bat2_209 : (0 : Int) ≤ at2_209 ∧ at2_209 ≤ 3002 := e214 ▸ hW212.1 10
          have ztk2_210 := tz_b tk2_210
          have btk2_210 : (0 : Int) ≤ tk2_210 ∧ tk2_210 ≤ 5 := e215 ▸ hW212.1 11
          have bfk2_211 : (0 : Int) ≤ fk2_211 ∧ fk2_211 ≤ 6 := e216 ▸ hW212.1 16
          refine .inl ⟨rfl, ?_⟩
          rcases q219 with ⟨a222, a223, a224, a225⟩ | ⟨a226, a227, a228, a229⟩
          · have _q : True := trivial
            refine jx_ld (pc' := 25) (l' := L199) (st' := [.ref 66]) rfl (jl_aloadn gL199_0) ?_
            refine jx_ar (pc' := 26) (st' := [.ref 66, .ref 66]) rfl rfl rfl rfl ?_
            refine jr_get (pc' := 29) (i := 15) (v := .int (i32 (op2_166))) rfl rfl (by decide) (rFv_eq (by decide) (show G207 15 = op2_166 from ((hF213.1 15 rfl).trans (e175)))) rfl ?_
            refine jx_ar (pc' := 30) (st' := [.int (i32 (1)), .int (i32 (op2_166)), .ref 66]) rfl rfl rfl rfl ?_
            refine jx_sub (pc' := 31) rfl rfl ?_
            refine jr_put (pc' := 34) (i := 15) (z := (op2_166 - 1)) rfl rfl (by decide) rfl rfl rfl rfl rfl rfl ?_
            have hW230 : Wk (uG G207 15 ((op2_166 - 1))) A208 := Wk_g hW212 (show (-2147483648 : Int) ≤ (op2_166 - 1) by omega) (show (op2_166 - 1) ≤ (2147483647 : Int) by omega)
            have hF231 := Fr_g (z := (op2_166 - 1)) (i := 15) hF220 (by decide)
            refine jx_ld (pc' := 35) (l' := L199) (st' := [.int (i32 (r163))]) rfl (jl_iloadn gL199_1) ?_
            refine jx_rt (v := some (.int (i32 (r163)))) rfl rfl rfl rfl rfl rfl ?_
            have z232 := tz_f (tk2_210)
            exact ⟨_, _, _, at2_209, fk2_211, (op2_166 - 1), nd2_167, tk2_210, rfl, rfl, hW230, hF231, hP221, by omega, (e214), (e216), rfl, ((hF213.1 31 rfl).trans (e176)), (e215), by omega, by omega, by omega, by omega, by omega, by omega, by first | exact Or.inl (⟨by omega, by omega, by omega⟩) | exact Or.inr ((⟨by omega, by omega, by omega⟩))⟩
          · have _q : True := trivial
            exfalso
            omega
        · have _q : True := trivial
          refine jx_vr (pc' := 24) (as := [.int (i32 (0))]) (st := []) rfl rfl rfl rfl ⟨rfl, rfl, Nat.le_of_ble_eq_true rfl⟩ rfl rfl (c_need (dd := d) (hd := by omega) (hW := hW169) (g := 0) (ln := ln) (e_ln := show G161 9 = ln from ((hF170.1 9 rfl).trans ((hF144.1 9 rfl).trans ((hF6.1 9 rfl).trans (e_ln))))) (le := le) (e_le := show A162 4 (ln).toNat = le from (congrFun ((hF170.2 4 rfl).trans ((hF144.2 4 rfl).trans (hF6.2 4 rfl))) _).trans (e_le)) (at0 := at2_164) (e_at0 := show G161 10 = at2_164 from (e173)) (fk := fk2_165) (e_fk := show G161 16 = fk2_165 from (e174)) (tk0 := tk2_168) (e_tk0 := show G161 11 = tk2_168 from (e177))  (h_g := ⟨(by decide), (by decide)⟩)  (p_0 := by omega)) (fun o V' hq => ?_)
          obtain ⟨G233, A234, at2_235, tk2_236, fk2_237, rfl, rfl, hW238, hF239, e240, e241, e242, p243, p244, q245⟩ := hq
          have hF246 := Fr_tr hF185 hF239 (Fr_sub (by decide)) (Fr_sub (by decide))
          have hP247 := Pf_f hP186 hF239 (by decide)
          have bat2_235 : (0 : Int) ≤ at2_235 ∧ at2_235 ≤ 3002 := e240 ▸ hW238.1 10
          have ztk2_236 := tz_b tk2_236
          have btk2_236 : (0 : Int) ≤ tk2_236 ∧ tk2_236 ≤ 5 := e241 ▸ hW238.1 11
          have bfk2_237 : (0 : Int) ≤ fk2_237 ∧ fk2_237 ≤ 6 := e242 ▸ hW238.1 16
          refine .inl ⟨rfl, ?_⟩
          rcases q245 with ⟨a248, a249, a250, a251⟩ | ⟨a252, a253, a254, a255⟩
          · have _q : True := trivial
            refine jx_ld (pc' := 25) (l' := L199) (st' := [.ref 66]) rfl (jl_aloadn gL199_0) ?_
            refine jx_ar (pc' := 26) (st' := [.ref 66, .ref 66]) rfl rfl rfl rfl ?_
            refine jr_get (pc' := 29) (i := 15) (v := .int (i32 (op2_166))) rfl rfl (by decide) (rFv_eq (by decide) (show G233 15 = op2_166 from ((hF239.1 15 rfl).trans (e175)))) rfl ?_
            refine jx_ar (pc' := 30) (st' := [.int (i32 (1)), .int (i32 (op2_166)), .ref 66]) rfl rfl rfl rfl ?_
            refine jx_sub (pc' := 31) rfl rfl ?_
            refine jr_put (pc' := 34) (i := 15) (z := (op2_166 - 1)) rfl rfl (by decide) rfl rfl rfl rfl rfl rfl ?_
            have hW256 : Wk (uG G233 15 ((op2_166 - 1))) A234 := Wk_g hW238 (show (-2147483648 : Int) ≤ (op2_166 - 1) by omega) (show (op2_166 - 1) ≤ (2147483647 : Int) by omega)
            have hF257 := Fr_g (z := (op2_166 - 1)) (i := 15) hF246 (by decide)
            refine jx_ld (pc' := 35) (l' := L199) (st' := [.int (i32 (r163))]) rfl (jl_iloadn gL199_1) ?_
            refine jx_rt (v := some (.int (i32 (r163)))) rfl rfl rfl rfl rfl rfl ?_
            have z258 := tz_f (tk2_236)
            exact ⟨_, _, _, at2_235, fk2_237, (op2_166 - 1), nd2_167, tk2_236, rfl, rfl, hW256, hF257, hP247, by omega, (e240), (e242), rfl, ((hF239.1 31 rfl).trans (e176)), (e241), by omega, by omega, by omega, by omega, by omega, by omega, by first | exact Or.inl (⟨by omega, by omega, by omega⟩) | exact Or.inr ((⟨by omega, by omega, by omega⟩))⟩
          · have _q : True := trivial
            exfalso
            omega
      · have _q : True := trivial
        exfalso
        omega
      · have _q : True := trivial
        exfalso
        omega
    · have _q : True := trivial
      refine jx_ld (pc' := 10) (l' := [(0, .ref 66)]) (st' := [.ref 66]) rfl (jl_aloadn rfl) ?_
      refine jx_vr (pc' := 13) (as := []) (st := []) rfl rfl rfl rfl ⟨rfl, rfl, Nat.le_of_ble_eq_true rfl⟩ rfl rfl (hE (dd := d) (hd := by omega) (hW := hW143)  (ln := ln) (e_ln := show G138 9 = ln from ((hF144.1 9 rfl).trans ((hF6.1 9 rfl).trans (e_ln)))) (le := le) (e_le := show A139 4 (ln).toNat = le from (congrFun ((hF144.2 4 rfl).trans (hF6.2 4 rfl)) _).trans (e_le)) (at0 := at2_140) (e_at0 := show G138 10 = at2_140 from (e145)) (fk := fk2_142) (e_fk := show G138 16 = fk2_142 from (e147)) (op0 := op2_4) (e_op0 := show G138 15 = op2_4 from ((hF144.1 15 rfl).trans (e8))) (nd := nd) (e_nd := show G138 31 = nd from ((hF144.1 31 rfl).trans ((hF6.1 31 rfl).trans (e_nd)))) (tk0 := tk2_141) (e_tk0 := show G138 11 = tk2_141 from (e146))    (p_0 := by omega) (p_1 := by omega) (p_2 := by omega) (p_3 := by omega) (p_4 := by omega) (p_5 := by omega)) (fun o V' hq => ?_)
      obtain ⟨G259, A260, r261, at2_262, fk2_263, op2_264, nd2_265, tk2_266, rfl, rfl, hW267, hF268, hQ269, b270, e271, e272, e273, e274, e275, p276, p277, p278, p279, p280, p281, q282⟩ := hq
      have hF283 := Fr_tr hF151 hF268 (Fr_sub (by decide)) (Fr_sub (by decide))
      have hP284 := Pf_tr hP152 hQ269 (by omega)
      have bat2_262 : (0 : Int) ≤ at2_262 ∧ at2_262 ≤ 3002 := e271 ▸ hW267.1 10
      have bfk2_263 : (0 : Int) ≤ fk2_263 ∧ fk2_263 ≤ 6 := e272 ▸ hW267.1 16
      have bop2_264 : (-2147483648 : Int) ≤ op2_264 ∧ op2_264 ≤ 2147483647 := e273 ▸ hW267.1 15
      have bnd2_265 : (0 : Int) ≤ nd2_265 ∧ nd2_265 ≤ 6999 := e274 ▸ hW267.1 31
      have ztk2_266 := tz_b tk2_266
      have btk2_266 : (0 : Int) ≤ tk2_266 ∧ tk2_266 ≤ 5 := e275 ▸ hW267.1 11
      refine .inr ⟨_, rfl, ?_⟩
      rcases q282 with ⟨a285, a286, a287, a288, a289, a290⟩ | ⟨a291, a292, a293⟩ | ⟨a294, a295, a296⟩
      · have _q : True := trivial
        exfalso
        omega
      · have _q : True := trivial
        refine jx_ld (pc' := 14) (l' := jSto1 [(0, .ref 66)] 1 (.int (i32 (r261)))) (st' := []) rfl rfl ?_
        obtain ⟨L297, eL297⟩ : ∃ q, q = jSto1 [(0, .ref 66)] 1 (.int (i32 (r261))) := ⟨_, rfl⟩
        rw [← eL297]
        have gL297_0 : jGet L297 0 = some (.ref 66) := eL297 ▸ jg_ne (by decide) (rfl : jGet [(0, .ref 66)] 0 = some (.ref 66)) rfl
        have gL297_1 : jGet L297 1 = some (.int (i32 (r261))) := eL297 ▸ jg_eq
        refine jx_ld (pc' := 15) (l' := L297) (st' := [.ref 66]) rfl (jl_aloadn gL297_0) ?_
        refine jx_ld (pc' := 16) (l' := L297) (st' := [.ref 66, .ref 66]) rfl (jl_aloadn gL297_0) ?_
        refine jx_ar (pc' := 18) (st' := [.int (i32 (93)), .ref 66, .ref 66]) rfl rfl rfl rfl ?_
        have b298 : (-2147483648 : Int) ≤ G259 13 ∧ G259 13 ≤ 2147483647 := hW267.1 13
        refine jx_vr (pc' := 21) (as := [.int (i32 (93))]) (st := [.ref 66]) rfl rfl rfl rfl ⟨rfl, rfl, Nat.le_of_ble_eq_true rfl⟩ rfl rfl (c_is (dd := d) (hd := by omega) (hW := hW267) (k := 93) (tk := tk2_266) (e_tk := show G259 11 = tk2_266 from (e275)) (tn := G259 13) (e_tn := show G259 13 = G259 13 from rfl)  (h_k := ⟨(by decide), (by decide)⟩)  ) (fun o V' hq => ?_)
        obtain ⟨r299, rfl, rfl, b300, q301⟩ := hq
        refine .inr ⟨_, rfl, ?_⟩
        rcases q301 with ⟨rfl, a302, a303, a304⟩ | rfl
        · have _q : True := trivial
          refine jx_vr (pc' := 24) (as := [.int (i32 (1))]) (st := []) rfl rfl rfl rfl ⟨rfl, rfl, Nat.le_of_ble_eq_true rfl⟩ rfl rfl (c_need (dd := d) (hd := by omega) (hW := hW267) (g := 1) (ln := ln) (e_ln := show G259 9 = ln from ((hF268.1 9 rfl).trans ((hF144.1 9 rfl).trans ((hF6.1 9 rfl).trans (e_ln))))) (le := le) (e_le := show A260 4 (ln).toNat = le from (congrFun ((hF268.2 4 rfl).trans ((hF144.2 4 rfl).trans (hF6.2 4 rfl))) _).trans (e_le)) (at0 := at2_262) (e_at0 := show G259 10 = at2_262 from (e271)) (fk := fk2_263) (e_fk := show G259 16 = fk2_263 from (e272)) (tk0 := tk2_266) (e_tk0 := show G259 11 = tk2_266 from (e275))  (h_g := ⟨(by decide), (by decide)⟩)  (p_0 := by omega)) (fun o V' hq => ?_)
          obtain ⟨G305, A306, at2_307, tk2_308, fk2_309, rfl, rfl, hW310, hF311, e312, e313, e314, p315, p316, q317⟩ := hq
          have hF318 := Fr_tr hF283 hF311 (Fr_sub (by decide)) (Fr_sub (by decide))
          have hP319 := Pf_f hP284 hF311 (by decide)
          have bat2_307 : (0 : Int) ≤ at2_307 ∧ at2_307 ≤ 3002 := e312 ▸ hW310.1 10
          have ztk2_308 := tz_b tk2_308
          have btk2_308 : (0 : Int) ≤ tk2_308 ∧ tk2_308 ≤ 5 := e313 ▸ hW310.1 11
          have bfk2_309 : (0 : Int) ≤ fk2_309 ∧ fk2_309 ≤ 6 := e314 ▸ hW310.1 16
          refine .inl ⟨rfl, ?_⟩
          rcases q317 with ⟨a320, a321, a322, a323⟩ | ⟨a324, a325, a326, a327⟩
          · have _q : True := trivial
            refine jx_ld (pc' := 25) (l' := L297) (st' := [.ref 66]) rfl (jl_aloadn gL297_0) ?_
            refine jx_ar (pc' := 26) (st' := [.ref 66, .ref 66]) rfl rfl rfl rfl ?_
            refine jr_get (pc' := 29) (i := 15) (v := .int (i32 (op2_264))) rfl rfl (by decide) (rFv_eq (by decide) (show G305 15 = op2_264 from ((hF311.1 15 rfl).trans (e273)))) rfl ?_
            refine jx_ar (pc' := 30) (st' := [.int (i32 (1)), .int (i32 (op2_264)), .ref 66]) rfl rfl rfl rfl ?_
            refine jx_sub (pc' := 31) rfl rfl ?_
            refine jr_put (pc' := 34) (i := 15) (z := (op2_264 - 1)) rfl rfl (by decide) rfl rfl rfl rfl rfl rfl ?_
            have hW328 : Wk (uG G305 15 ((op2_264 - 1))) A306 := Wk_g hW310 (show (-2147483648 : Int) ≤ (op2_264 - 1) by omega) (show (op2_264 - 1) ≤ (2147483647 : Int) by omega)
            have hF329 := Fr_g (z := (op2_264 - 1)) (i := 15) hF318 (by decide)
            refine jx_ld (pc' := 35) (l' := L297) (st' := [.int (i32 (r261))]) rfl (jl_iloadn gL297_1) ?_
            refine jx_rt (v := some (.int (i32 (r261)))) rfl rfl rfl rfl rfl rfl ?_
            have z330 := tz_f (tk2_308)
            exact ⟨_, _, _, at2_307, fk2_309, (op2_264 - 1), nd2_265, tk2_308, rfl, rfl, hW328, hF329, hP319, by omega, (e312), (e314), rfl, ((hF311.1 31 rfl).trans (e274)), (e313), by omega, by omega, by omega, by omega, by omega, by omega, by first | exact Or.inl (⟨by omega, by omega, by omega⟩) | exact Or.inr ((⟨by omega, by omega, by omega⟩))⟩
          · have _q : True := trivial
            exfalso
            omega
        · have _q : True := trivial
          refine jx_vr (pc' := 24) (as := [.int (i32 (0))]) (st := []) rfl rfl rfl rfl ⟨rfl, rfl, Nat.le_of_ble_eq_true rfl⟩ rfl rfl (c_need (dd := d) (hd := by omega) (hW := hW267) (g := 0) (ln := ln) (e_ln := show G259 9 = ln from ((hF268.1 9 rfl).trans ((hF144.1 9 rfl).trans ((hF6.1 9 rfl).trans (e_ln))))) (le := le) (e_le := show A260 4 (ln).toNat = le from (congrFun ((hF268.2 4 rfl).trans ((hF144.2 4 rfl).trans (hF6.2 4 rfl))) _).trans (e_le)) (at0 := at2_262) (e_at0 := show G259 10 = at2_262 from (e271)) (fk := fk2_263) (e_fk := show G259 16 = fk2_263 from (e272)) (tk0 := tk2_266) (e_tk0 := show G259 11 = tk2_266 from (e275))  (h_g := ⟨(by decide), (by decide)⟩)  (p_0 := by omega)) (fun o V' hq => ?_)
          obtain ⟨G331, A332, at2_333, tk2_334, fk2_335, rfl, rfl, hW336, hF337, e338, e339, e340, p341, p342, q343⟩ := hq
          have hF344 := Fr_tr hF283 hF337 (Fr_sub (by decide)) (Fr_sub (by decide))
          have hP345 := Pf_f hP284 hF337 (by decide)
          have bat2_333 : (0 : Int) ≤ at2_333 ∧ at2_333 ≤ 3002 := e338 ▸ hW336.1 10
          have ztk2_334 := tz_b tk2_334
          have btk2_334 : (0 : Int) ≤ tk2_334 ∧ tk2_334 ≤ 5 := e339 ▸ hW336.1 11
          have bfk2_335 : (0 : Int) ≤ fk2_335 ∧ fk2_335 ≤ 6 := e340 ▸ hW336.1 16
          refine .inl ⟨rfl, ?_⟩
          rcases q343 with ⟨a346, a347, a348, a349⟩ | ⟨a350, a351, a352, a353⟩
          · have _q : True := trivial
            refine jx_ld (pc' := 25) (l' := L297) (st' := [.ref 66]) rfl (jl_aloadn gL297_0) ?_
            refine jx_ar (pc' := 26) (st' := [.ref 66, .ref 66]) rfl rfl rfl rfl ?_
            refine jr_get (pc' := 29) (i := 15) (v := .int (i32 (op2_264))) rfl rfl (by decide) (rFv_eq (by decide) (show G331 15 = op2_264 from ((hF337.1 15 rfl).trans (e273)))) rfl ?_
            refine jx_ar (pc' := 30) (st' := [.int (i32 (1)), .int (i32 (op2_264)), .ref 66]) rfl rfl rfl rfl ?_
            refine jx_sub (pc' := 31) rfl rfl ?_
            refine jr_put (pc' := 34) (i := 15) (z := (op2_264 - 1)) rfl rfl (by decide) rfl rfl rfl rfl rfl rfl ?_
            have hW354 : Wk (uG G331 15 ((op2_264 - 1))) A332 := Wk_g hW336 (show (-2147483648 : Int) ≤ (op2_264 - 1) by omega) (show (op2_264 - 1) ≤ (2147483647 : Int) by omega)
            have hF355 := Fr_g (z := (op2_264 - 1)) (i := 15) hF344 (by decide)
            refine jx_ld (pc' := 35) (l' := L297) (st' := [.int (i32 (r261))]) rfl (jl_iloadn gL297_1) ?_
            refine jx_rt (v := some (.int (i32 (r261)))) rfl rfl rfl rfl rfl rfl ?_
            have z356 := tz_f (tk2_334)
            exact ⟨_, _, _, at2_333, fk2_335, (op2_264 - 1), nd2_265, tk2_334, rfl, rfl, hW354, hF355, hP345, by omega, (e338), (e340), rfl, ((hF337.1 31 rfl).trans (e274)), (e339), by omega, by omega, by omega, by omega, by omega, by omega, by first | exact Or.inl (⟨by omega, by omega, by omega⟩) | exact Or.inr ((⟨by omega, by omega, by omega⟩))⟩
          · have _q : True := trivial
            exfalso
            omega
      · have _q : True := trivial
        refine jx_ld (pc' := 14) (l' := jSto1 [(0, .ref 66)] 1 (.int (i32 (r261)))) (st' := []) rfl rfl ?_
        obtain ⟨L357, eL357⟩ : ∃ q, q = jSto1 [(0, .ref 66)] 1 (.int (i32 (r261))) := ⟨_, rfl⟩
        rw [← eL357]
        have gL357_0 : jGet L357 0 = some (.ref 66) := eL357 ▸ jg_ne (by decide) (rfl : jGet [(0, .ref 66)] 0 = some (.ref 66)) rfl
        have gL357_1 : jGet L357 1 = some (.int (i32 (r261))) := eL357 ▸ jg_eq
        refine jx_ld (pc' := 15) (l' := L357) (st' := [.ref 66]) rfl (jl_aloadn gL357_0) ?_
        refine jx_ld (pc' := 16) (l' := L357) (st' := [.ref 66, .ref 66]) rfl (jl_aloadn gL357_0) ?_
        refine jx_ar (pc' := 18) (st' := [.int (i32 (93)), .ref 66, .ref 66]) rfl rfl rfl rfl ?_
        have b358 : (-2147483648 : Int) ≤ G259 13 ∧ G259 13 ≤ 2147483647 := hW267.1 13
        refine jx_vr (pc' := 21) (as := [.int (i32 (93))]) (st := [.ref 66]) rfl rfl rfl rfl ⟨rfl, rfl, Nat.le_of_ble_eq_true rfl⟩ rfl rfl (c_is (dd := d) (hd := by omega) (hW := hW267) (k := 93) (tk := tk2_266) (e_tk := show G259 11 = tk2_266 from (e275)) (tn := G259 13) (e_tn := show G259 13 = G259 13 from rfl)  (h_k := ⟨(by decide), (by decide)⟩)  ) (fun o V' hq => ?_)
        obtain ⟨r359, rfl, rfl, b360, q361⟩ := hq
        refine .inr ⟨_, rfl, ?_⟩
        rcases q361 with ⟨rfl, a362, a363, a364⟩ | rfl
        · have _q : True := trivial
          refine jx_vr (pc' := 24) (as := [.int (i32 (1))]) (st := []) rfl rfl rfl rfl ⟨rfl, rfl, Nat.le_of_ble_eq_true rfl⟩ rfl rfl (c_need (dd := d) (hd := by omega) (hW := hW267) (g := 1) (ln := ln) (e_ln := show G259 9 = ln from ((hF268.1 9 rfl).trans ((hF144.1 9 rfl).trans ((hF6.1 9 rfl).trans (e_ln))))) (le := le) (e_le := show A260 4 (ln).toNat = le from (congrFun ((hF268.2 4 rfl).trans ((hF144.2 4 rfl).trans (hF6.2 4 rfl))) _).trans (e_le)) (at0 := at2_262) (e_at0 := show G259 10 = at2_262 from (e271)) (fk := fk2_263) (e_fk := show G259 16 = fk2_263 from (e272)) (tk0 := tk2_266) (e_tk0 := show G259 11 = tk2_266 from (e275))  (h_g := ⟨(by decide), (by decide)⟩)  (p_0 := by omega)) (fun o V' hq => ?_)
          obtain ⟨G365, A366, at2_367, tk2_368, fk2_369, rfl, rfl, hW370, hF371, e372, e373, e374, p375, p376, q377⟩ := hq
          have hF378 := Fr_tr hF283 hF371 (Fr_sub (by decide)) (Fr_sub (by decide))
          have hP379 := Pf_f hP284 hF371 (by decide)
          have bat2_367 : (0 : Int) ≤ at2_367 ∧ at2_367 ≤ 3002 := e372 ▸ hW370.1 10
          have ztk2_368 := tz_b tk2_368
          have btk2_368 : (0 : Int) ≤ tk2_368 ∧ tk2_368 ≤ 5 := e373 ▸ hW370.1 11
          have bfk2_369 : (0 : Int) ≤ fk2_369 ∧ fk2_369 ≤ 6 := e374 ▸ hW370.1 16
          refine .inl ⟨rfl, ?_⟩
          rcases q377 with ⟨a380, a381, a382, a383⟩ | ⟨a384, a385, a386, a387⟩
          · have _q : True := trivial
            refine jx_ld (pc' := 25) (l' := L357) (st' := [.ref 66]) rfl (jl_aloadn gL357_0) ?_
            refine jx_ar (pc' := 26) (st' := [.ref 66, .ref 66]) rfl rfl rfl rfl ?_
            refine jr_get (pc' := 29) (i := 15) (v := .int (i32 (op2_264))) rfl rfl (by decide) (rFv_eq (by decide) (show G365 15 = op2_264 from ((hF371.1 15 rfl).trans (e273)))) rfl ?_
            refine jx_ar (pc' := 30) (st' := [.int (i32 (1)), .int (i32 (op2_264)), .ref 66]) rfl rfl rfl rfl ?_
            refine jx_sub (pc' := 31) rfl rfl ?_
            refine jr_put (pc' := 34) (i := 15) (z := (op2_264 - 1)) rfl rfl (by decide) rfl rfl rfl rfl rfl rfl ?_
            have hW388 : Wk (uG G365 15 ((op2_264 - 1))) A366 := Wk_g hW370 (show (-2147483648 : Int) ≤ (op2_264 - 1) by omega) (show (op2_264 - 1) ≤ (2147483647 : Int) by omega)
            have hF389 := Fr_g (z := (op2_264 - 1)) (i := 15) hF378 (by decide)
            refine jx_ld (pc' := 35) (l' := L357) (st' := [.int (i32 (r261))]) rfl (jl_iloadn gL357_1) ?_
            refine jx_rt (v := some (.int (i32 (r261)))) rfl rfl rfl rfl rfl rfl ?_
            have z390 := tz_f (tk2_368)
            exact ⟨_, _, _, at2_367, fk2_369, (op2_264 - 1), nd2_265, tk2_368, rfl, rfl, hW388, hF389, hP379, by omega, (e372), (e374), rfl, ((hF371.1 31 rfl).trans (e274)), (e373), by omega, by omega, by omega, by omega, by omega, by omega, by first | exact Or.inl (⟨by omega, by omega, by omega⟩) | exact Or.inr ((⟨by omega, by omega, by omega⟩))⟩
          · have _q : True := trivial
            refine jx_ld (pc' := 25) (l' := L357) (st' := [.ref 66]) rfl (jl_aloadn gL357_0) ?_
            refine jx_ar (pc' := 26) (st' := [.ref 66, .ref 66]) rfl rfl rfl rfl ?_
            refine jr_get (pc' := 29) (i := 15) (v := .int (i32 (op2_264))) rfl rfl (by decide) (rFv_eq (by decide) (show G365 15 = op2_264 from ((hF371.1 15 rfl).trans (e273)))) rfl ?_
            refine jx_ar (pc' := 30) (st' := [.int (i32 (1)), .int (i32 (op2_264)), .ref 66]) rfl rfl rfl rfl ?_
            refine jx_sub (pc' := 31) rfl rfl ?_
            refine jr_put (pc' := 34) (i := 15) (z := (op2_264 - 1)) rfl rfl (by decide) rfl rfl rfl rfl rfl rfl ?_
            have hW391 : Wk (uG G365 15 ((op2_264 - 1))) A366 := Wk_g hW370 (show (-2147483648 : Int) ≤ (op2_264 - 1) by omega) (show (op2_264 - 1) ≤ (2147483647 : Int) by omega)
            have hF392 := Fr_g (z := (op2_264 - 1)) (i := 15) hF378 (by decide)
            refine jx_ld (pc' := 35) (l' := L357) (st' := [.int (i32 (r261))]) rfl (jl_iloadn gL357_1) ?_
            refine jx_rt (v := some (.int (i32 (r261)))) rfl rfl rfl rfl rfl rfl ?_
            have z393 := tz_f (tk2_368)
            exact ⟨_, _, _, at2_367, fk2_369, (op2_264 - 1), nd2_265, tk2_368, rfl, rfl, hW391, hF392, hP379, by omega, (e372), (e374), rfl, ((hF371.1 31 rfl).trans (e274)), (e373), by omega, by omega, by omega, by omega, by omega, by omega, by first | exact Or.inl (⟨by omega, by omega, by omega⟩) | exact Or.inr ((⟨by omega, by omega, by omega⟩))⟩
        · have _q : True := trivial
          refine jx_vr (pc' := 24) (as := [.int (i32 (0))]) (st := []) rfl rfl rfl rfl ⟨rfl, rfl, Nat.le_of_ble_eq_true rfl⟩ rfl rfl (c_need (dd := d) (hd := by omega) (hW := hW267) (g := 0) (ln := ln) (e_ln := show G259 9 = ln from ((hF268.1 9 rfl).trans ((hF144.1 9 rfl).trans ((hF6.1 9 rfl).trans (e_ln))))) (le := le) (e_le := show A260 4 (ln).toNat = le from (congrFun ((hF268.2 4 rfl).trans ((hF144.2 4 rfl).trans (hF6.2 4 rfl))) _).trans (e_le)) (at0 := at2_262) (e_at0 := show G259 10 = at2_262 from (e271)) (fk := fk2_263) (e_fk := show G259 16 = fk2_263 from (e272)) (tk0 := tk2_266) (e_tk0 := show G259 11 = tk2_266 from (e275))  (h_g := ⟨(by decide), (by decide)⟩)  (p_0 := by omega)) (fun o V' hq => ?_)
          obtain ⟨G394, A395, at2_396, tk2_397, fk2_398, rfl, rfl, hW399, hF400, e401, e402, e403, p404, p405, q406⟩ := hq
          have hF407 := Fr_tr hF283 hF400 (Fr_sub (by decide)) (Fr_sub (by decide))
          have hP408 := Pf_f hP284 hF400 (by decide)
          have bat2_396 : (0 : Int) ≤ at2_396 ∧ at2_396 ≤ 3002 := e401 ▸ hW399.1 10
          have ztk2_397 := tz_b tk2_397
          have btk2_397 : (0 : Int) ≤ tk2_397 ∧ tk2_397 ≤ 5 := e402 ▸ hW399.1 11
          have bfk2_398 : (0 : Int) ≤ fk2_398 ∧ fk2_398 ≤ 6 := e403 ▸ hW399.1 16
          refine .inl ⟨rfl, ?_⟩
          rcases q406 with ⟨a409, a410, a411, a412⟩ | ⟨a413, a414, a415, a416⟩
          · have _q : True := trivial
            refine jx_ld (pc' := 25) (l' := L357) (st' := [.ref 66]) rfl (jl_aloadn gL357_0) ?_
            refine jx_ar (pc' := 26) (st' := [.ref 66, .ref 66]) rfl rfl rfl rfl ?_
            refine jr_get (pc' := 29) (i := 15) (v := .int (i32 (op2_264))) rfl rfl (by decide) (rFv_eq (by decide) (show G394 15 = op2_264 from ((hF400.1 15 rfl).trans (e273)))) rfl ?_
            refine jx_ar (pc' := 30) (st' := [.int (i32 (1)), .int (i32 (op2_264)), .ref 66]) rfl rfl rfl rfl ?_
            refine jx_sub (pc' := 31) rfl rfl ?_
            refine jr_put (pc' := 34) (i := 15) (z := (op2_264 - 1)) rfl rfl (by decide) rfl rfl rfl rfl rfl rfl ?_
            have hW417 : Wk (uG G394 15 ((op2_264 - 1))) A395 := Wk_g hW399 (show (-2147483648 : Int) ≤ (op2_264 - 1) by omega) (show (op2_264 - 1) ≤ (2147483647 : Int) by omega)
            have hF418 := Fr_g (z := (op2_264 - 1)) (i := 15) hF407 (by decide)
            refine jx_ld (pc' := 35) (l' := L357) (st' := [.int (i32 (r261))]) rfl (jl_iloadn gL357_1) ?_
            refine jx_rt (v := some (.int (i32 (r261)))) rfl rfl rfl rfl rfl rfl ?_
            have z419 := tz_f (tk2_397)
            exact ⟨_, _, _, at2_396, fk2_398, (op2_264 - 1), nd2_265, tk2_397, rfl, rfl, hW417, hF418, hP408, by omega, (e401), (e403), rfl, ((hF400.1 31 rfl).trans (e274)), (e402), by omega, by omega, by omega, by omega, by omega, by omega, by first | exact Or.inl (⟨by omega, by omega, by omega⟩) | exact Or.inr ((⟨by omega, by omega, by omega⟩))⟩
          · have _q : True := trivial
            exfalso
            omega
set_option maxRecDepth 20000 in
set_option maxHeartbeats 4000000 in
theorem c_readValue {X : jX} {k : Nat} (hE : RE X k) {dd : Nat} {c0 c1 : jC} {G : Nat → Int} {A : Nat → Nat → Int} {T : jH} {s place : Int} {ln le at0 fk op0 nd tk0 : Int} (hd : 6 * k + 13 ≤ dd) (hW : Wk G A) (e_ln : G 9 = ln) (e_le : A 4 (ln).toNat = le) (e_at0 : G 10 = at0) (e_fk : G 16 = fk) (e_op0 : G 15 = op0) (e_nd : G 31 = nd) (e_tk0 : G 11 = tk0) (h_s : (-2147483648 : Int) ≤ s ∧ s ≤ 2147483647) (h_place : (-2147483648 : Int) ≤ place ∧ place ≤ 2147483647) (p_0 : 0 ≤ op0) (p_1 : op0 ≤ 9) (p_2 : op0 ≤ 8 ∨ 1 ≤ fk) (p_3 : 9 - op0 ≤ ((k + 1 : Nat) : Int) ∨ 1 ≤ fk) (p_4 : nd ≤ 2 * at0 - tz tk0 + 50) (p_5 : at0 ≤ le) (p_6 : op0 ≤ 8) (p_7 : fk = 0) (p_8 : 0 ≤ s ∧ s ≤ 201) (p_9 : -3000 ≤ place ∧ place ≤ 3002) : wk X dd 289 [.ref 66, .int (i32 s), .int (i32 place)] (rV c0 c1 G A T) (fun o V' => ∃ (G' : Nat → Int) (A' : Nat → Nat → Int) (r : Int) (at2 : Int) (fk2 : Int) (op2 : Int) (nd2 : Int) (tk2 : Int), V' = rV c0 c1 G' A' T ∧ o = .inl (some (.int (i32 r))) ∧ Wk G' A' ∧ Fr [10, 11, 12, 13, 14, 15, 16, 17, 18, 31] [15, 16, 17, 18, 19, 20, 21, 22, 24, 28] G A G' A' ∧ Pf nd A A' ∧ ((-2147483648 : Int) ≤ r ∧ r ≤ 2147483647) ∧ G' 10 = at2 ∧ G' 16 = fk2 ∧ G' 15 = op2 ∧ G' 31 = nd2 ∧ G' 11 = tk2 ∧ (at0 ≤ at2) ∧ (at2 ≤ le) ∧ (nd ≤ nd2) ∧ (op2 = op0) ∧ (0 ≤ r) ∧ (r ≤ nd2) ∧ (((fk = 0) ∧ (1 ≤ fk2) ∧ (nd2 - nd ≤ (2 * at2 - tz tk2) - (2 * at0 - tz tk0) + 2)) ∨ ((fk = 0) ∧ (fk2 = 0) ∧ (nd2 - nd ≤ (2 * at2 - tz tk2) - (2 * at0 - tz tk0) + 1)))) := by
  obtain ⟨d, rfl⟩ : ∃ d, dd = d + 1 := ⟨dd - 1, by omega⟩
  refine wk_of (e := jm289) rfl (Nat.le_of_ble_eq_true rfl) ?_
  show wj X d jm289 (0, [(0, .ref 66), (1, .int (i32 (s))), (2, .int (i32 (place)))], [], rV c0 c1 G A T) _
  have hF0 : Fr [10, 11, 12, 13, 14, 15, 16, 17, 18, 31] [15, 16, 17, 18, 19, 20, 21, 22, 24, 28] G A G A := Fr_rf
  have hP0 : Pf nd A A := Pf_rf
  have b_ln : (0 : Int) ≤ ln ∧ ln ≤ 3000 := e_ln ▸ hW.1 9
  have b_le : (0 : Int) ≤ le ∧ le ≤ 3000 := e_le ▸ hW.2 4 _
  have b_at0 : (0 : Int) ≤ at0 ∧ at0 ≤ 3002 := e_at0 ▸ hW.1 10
  have b_fk : (0 : Int) ≤ fk ∧ fk ≤ 6 := e_fk ▸ hW.1 16
  have b_op0 : (-2147483648 : Int) ≤ op0 ∧ op0 ≤ 2147483647 := e_op0 ▸ hW.1 15
  have b_nd : (0 : Int) ≤ nd ∧ nd ≤ 6999 := e_nd ▸ hW.1 31
  have z_tk0 := tz_f tk0
  have b_tk0 : (0 : Int) ≤ tk0 ∧ tk0 ≤ 5 := e_tk0 ▸ hW.1 11
  refine jx_ld (pc' := 1) (l' := [(0, .ref 66), (1, .int (i32 (s))), (2, .int (i32 (place)))]) (st' := [.ref 66]) rfl (jl_aloadn rfl) ?_
  refine jx_ar (pc' := 3) (st' := [.int (i32 (91)), .ref 66]) rfl rfl rfl rfl ?_
  have b1 : (-2147483648 : Int) ≤ G 13 ∧ G 13 ≤ 2147483647 := hW.1 13
  refine jx_vr (pc' := 6) (as := [.int (i32 (91))]) (st := []) rfl rfl rfl rfl ⟨rfl, rfl, Nat.le_of_ble_eq_true rfl⟩ rfl rfl (c_is (dd := d) (hd := by omega) (hW := hW) (k := 91) (tk := tk0) (e_tk := show G 11 = tk0 from (e_tk0)) (tn := G 13) (e_tn := show G 13 = G 13 from rfl)  (h_k := ⟨(by decide), (by decide)⟩)  ) (fun o V' hq => ?_)
  obtain ⟨r2, rfl, rfl, b3, q4⟩ := hq
  refine .inr ⟨_, rfl, ?_⟩
  rcases q4 with ⟨rfl, a5, a6, a7⟩ | rfl
  · have _q : True := trivial
    refine jx_if_eq (pc' := 9) (tg := 44) rfl rfl rfl (by decide) (by decide) (fun h8 => ?_) (fun h8 => ?_)
    · have _q := h8
      exact absurd h8 (by omega)
    · have _q := h8
      refine jx_ld (pc' := 10) (l' := [(0, .ref 66), (1, .int (i32 (s))), (2, .int (i32 (place)))]) (st' := [.ref 66]) rfl (jl_aloadn rfl) ?_
      refine jr_get (pc' := 13) (i := 21) (v := .ref 74) rfl rfl (by decide) rfl rfl ?_
      refine jx_ld (pc' := 14) (l' := [(0, .ref 66), (1, .int (i32 (s))), (2, .int (i32 (place)))]) (st' := [.int (i32 (s)), .ref 74]) rfl (jl_iloadn rfl) ?_
      have b9 : (0 : Int) ≤ A 7 (s).toNat ∧ A 7 (s).toNat ≤ 14 := hW.2 7 _
      refine jr_ldv (pc' := 15) (i := 7) (m := 260) (z := s) (y := A 7 (s).toNat) rfl (by decide) rfl (by decide) (by omega) (by omega) rfl (show A 7 (s).toNat = A 7 (s).toNat from rfl) ?_
      refine jx_st (pc' := 18) (as := [.int (i32 (A 7 (s).toNat))]) (st := []) rfl rfl ⟨rfl, Nat.le_of_ble_eq_true rfl⟩ rfl rfl rfl (c_isArray (dd := d) (hd := by omega) (k := A 7 (s).toNat)   (h_k := ⟨(Int.le_trans (by decide : (-2147483648 : Int) ≤ 0) b9.1), (Int.le_trans b9.2 (by decide : (14 : Int) ≤ 2147483647))⟩)  ) (fun o V' hq => ?_)
      obtain ⟨r10, rfl, rfl, b11, q12⟩ := hq
      refine .inr ⟨_, rfl, ?_⟩
      rcases q12 with rfl | rfl
      · have _q : True := trivial
        refine jx_if_ne (pc' := 21) (tg := 29) rfl rfl rfl (by decide) (by decide) (fun h13 => ?_) (fun h13 => ?_)
        · have _q := h13
          refine jx_ld (pc' := 30) (l' := [(0, .ref 66), (1, .int (i32 (s))), (2, .int (i32 (place)))]) (st' := [.ref 66]) rfl (jl_aloadn rfl) ?_
          refine jx_vr (pc' := 33) (as := []) (st := []) rfl rfl rfl rfl ⟨rfl, rfl, Nat.le_of_ble_eq_true rfl⟩ rfl rfl (c_readIndex (dd := d) (hE := hE) (hd := by omega) (hW := hW)  (ln := ln) (e_ln := show G 9 = ln from (e_ln)) (le := le) (e_le := show A 4 (ln).toNat = le from (e_le)) (at0 := at0) (e_at0 := show G 10 = at0 from (e_at0)) (fk := fk) (e_fk := show G 16 = fk from (e_fk)) (op0 := op0) (e_op0 := show G 15 = op0 from (e_op0)) (nd := nd) (e_nd := show G 31 = nd from (e_nd)) (tk0 := tk0) (e_tk0 := show G 11 = tk0 from (e_tk0))    (p_0 := by omega) (p_1 := by omega) (p_2 := by omega) (p_3 := by omega) (p_4 := by omega) (p_5 := by omega) (p_6 := by omega) (p_7 := by omega) (p_8 := by omega)) (fun o V' hq => ?_)
          obtain ⟨G14, A15, r16, at2_17, fk2_18, op2_19, nd2_20, tk2_21, rfl, rfl, hW22, hF23, hQ24, b25, e26, e27, e28, e29, e30, p31, p32, p33, p34, p35, p36, q37⟩ := hq
          have hF38 := Fr_tr hF0 hF23 (Fr_sub (by decide)) (Fr_sub (by decide))
          have hP39 := Pf_tr hP0 hQ24 (by omega)
          have bat2_17 : (0 : Int) ≤ at2_17 ∧ at2_17 ≤ 3002 := e26 ▸ hW22.1 10
          have bfk2_18 : (0 : Int) ≤ fk2_18 ∧ fk2_18 ≤ 6 := e27 ▸ hW22.1 16
          have bop2_19 : (-2147483648 : Int) ≤ op2_19 ∧ op2_19 ≤ 2147483647 := e28 ▸ hW22.1 15
          have bnd2_20 : (0 : Int) ≤ nd2_20 ∧ nd2_20 ≤ 6999 := e29 ▸ hW22.1 31
          have ztk2_21 := tz_b tk2_21
          have btk2_21 : (0 : Int) ≤ tk2_21 ∧ tk2_21 ≤ 5 := e30 ▸ hW22.1 11
          refine .inr ⟨_, rfl, ?_⟩
          rcases q37 with ⟨a40, a41, a42⟩ | ⟨a43, a44, a45⟩
          · have _q : True := trivial
            refine jx_ld (pc' := 34) (l' := jSto1 [(0, .ref 66), (1, .int (i32 (s))), (2, .int (i32 (place)))] 3 (.int (i32 (r16)))) (st' := []) rfl rfl ?_
            obtain ⟨L46, eL46⟩ : ∃ q, q = jSto1 [(0, .ref 66), (1, .int (i32 (s))), (2, .int (i32 (place)))] 3 (.int (i32 (r16))) := ⟨_, rfl⟩
            rw [← eL46]
            have gL46_0 : jGet L46 0 = some (.ref 66) := eL46 ▸ jg_ne (by decide) (rfl : jGet [(0, .ref 66), (1, .int (i32 (s))), (2, .int (i32 (place)))] 0 = some (.ref 66)) rfl
            have gL46_1 : jGet L46 1 = some (.int (i32 (s))) := eL46 ▸ jg_ne (by decide) (rfl : jGet [(0, .ref 66), (1, .int (i32 (s))), (2, .int (i32 (place)))] 1 = some (.int (i32 (s)))) rfl
            have gL46_2 : jGet L46 2 = some (.int (i32 (place))) := eL46 ▸ jg_ne (by decide) (rfl : jGet [(0, .ref 66), (1, .int (i32 (s))), (2, .int (i32 (place)))] 2 = some (.int (i32 (place)))) rfl
            have gL46_3 : jGet L46 3 = some (.int (i32 (r16))) := eL46 ▸ jg_eq
            refine jx_ld (pc' := 35) (l' := L46) (st' := [.ref 66]) rfl (jl_aloadn gL46_0) ?_
            refine jx_ar (pc' := 36) (st' := [.int (i32 (3)), .ref 66]) rfl rfl rfl rfl ?_
            refine jx_ld (pc' := 37) (l' := L46) (st' := [.int (i32 (s)), .int (i32 (3)), .ref 66]) rfl (jl_iloadn gL46_1) ?_
            refine jx_ld (pc' := 38) (l' := L46) (st' := [.int (i32 (r16)), .int (i32 (s)), .int (i32 (3)), .ref 66]) rfl (jl_iloadn gL46_3) ?_
            refine jx_ar (pc' := 39) (st' := [.int (i32 (0)), .int (i32 (r16)), .int (i32 (s)), .int (i32 (3)), .ref 66]) rfl rfl rfl rfl ?_
            refine jx_ar (pc' := 40) (st' := [.int (i32 (0)), .int (i32 (0)), .int (i32 (r16)), .int (i32 (s)), .int (i32 (3)), .ref 66]) rfl rfl rfl rfl ?_
            refine jx_vr (pc' := 43) (as := [.int (i32 (3)), .int (i32 (s)), .int (i32 (r16)), .int (i32 (0)), .int (i32 (0))]) (st := []) rfl rfl rfl rfl ⟨rfl, rfl, Nat.le_of_ble_eq_true rfl⟩ rfl rfl (c_node (dd := d) (hd := by omega) (hW := hW22) (kind := 3) (a := s) (b := r16) (c := 0) (e := 0) (nd := nd2_20) (e_nd := show G14 31 = nd2_20 from (e29))  (h_kind := ⟨(by decide), (by decide)⟩) (h_a := ⟨(Int.le_trans (by decide : (-2147483648 : Int) ≤ -2147483648) h_s.1), (Int.le_trans h_s.2 (by decide : (2147483647 : Int) ≤ 2147483647))⟩) (h_b := ⟨(Int.le_trans (by decide : (-2147483648 : Int) ≤ -2147483648) b25.1), (Int.le_trans b25.2 (by decide : (2147483647 : Int) ≤ 2147483647))⟩) (h_c := ⟨(by decide), (by decide)⟩) (h_e := ⟨(by decide), (by decide)⟩)  (p_0 := by omega) (p_1 := by omega)) (fun o V' hq => ?_)
            obtain ⟨G47, A48, nd2_49, rfl, rfl, hW50, hF51, hQ52, e53, p54, -⟩ := hq
            have hF56 := Fr_tr hF38 hF51 (Fr_sub (by decide)) (Fr_sub (by decide))
            have hP57 := Pf_tr hP39 hQ52 (by omega)
            have bnd2_49 : (0 : Int) ≤ nd2_49 ∧ nd2_49 ≤ 6999 := e53 ▸ hW50.1 31
            refine .inr ⟨_, rfl, ?_⟩
            refine jx_rt (v := some (.int (i32 (nd2_20)))) rfl rfl rfl rfl rfl rfl ?_
            have z58 := tz_f (tk2_21)
            exact ⟨_, _, _, at2_17, fk2_18, op2_19, nd2_49, tk2_21, rfl, rfl, hW50, hF56, hP57, by omega, ((hF51.1 10 rfl).trans (e26)), ((hF51.1 16 rfl).trans (e27)), ((hF51.1 15 rfl).trans (e28)), (e53), ((hF51.1 11 rfl).trans (e30)), by omega, by omega, by omega, by omega, by omega, by omega, by first | exact Or.inl (⟨by omega, by omega, by omega⟩) | exact Or.inr ((⟨by omega, by omega, by omega⟩))⟩
          · have _q : True := trivial
            refine jx_ld (pc' := 34) (l' := jSto1 [(0, .ref 66), (1, .int (i32 (s))), (2, .int (i32 (place)))] 3 (.int (i32 (r16)))) (st' := []) rfl rfl ?_
            obtain ⟨L59, eL59⟩ : ∃ q, q = jSto1 [(0, .ref 66), (1, .int (i32 (s))), (2, .int (i32 (place)))] 3 (.int (i32 (r16))) := ⟨_, rfl⟩
            rw [← eL59]
            have gL59_0 : jGet L59 0 = some (.ref 66) := eL59 ▸ jg_ne (by decide) (rfl : jGet [(0, .ref 66), (1, .int (i32 (s))), (2, .int (i32 (place)))] 0 = some (.ref 66)) rfl
            have gL59_1 : jGet L59 1 = some (.int (i32 (s))) := eL59 ▸ jg_ne (by decide) (rfl : jGet [(0, .ref 66), (1, .int (i32 (s))), (2, .int (i32 (place)))] 1 = some (.int (i32 (s)))) rfl
            have gL59_2 : jGet L59 2 = some (.int (i32 (place))) := eL59 ▸ jg_ne (by decide) (rfl : jGet [(0, .ref 66), (1, .int (i32 (s))), (2, .int (i32 (place)))] 2 = some (.int (i32 (place)))) rfl
            have gL59_3 : jGet L59 3 = some (.int (i32 (r16))) := eL59 ▸ jg_eq
            refine jx_ld (pc' := 35) (l' := L59) (st' := [.ref 66]) rfl (jl_aloadn gL59_0) ?_
            refine jx_ar (pc' := 36) (st' := [.int (i32 (3)), .ref 66]) rfl rfl rfl rfl ?_
            refine jx_ld (pc' := 37) (l' := L59) (st' := [.int (i32 (s)), .int (i32 (3)), .ref 66]) rfl (jl_iloadn gL59_1) ?_
            refine jx_ld (pc' := 38) (l' := L59) (st' := [.int (i32 (r16)), .int (i32 (s)), .int (i32 (3)), .ref 66]) rfl (jl_iloadn gL59_3) ?_
            refine jx_ar (pc' := 39) (st' := [.int (i32 (0)), .int (i32 (r16)), .int (i32 (s)), .int (i32 (3)), .ref 66]) rfl rfl rfl rfl ?_
            refine jx_ar (pc' := 40) (st' := [.int (i32 (0)), .int (i32 (0)), .int (i32 (r16)), .int (i32 (s)), .int (i32 (3)), .ref 66]) rfl rfl rfl rfl ?_
            refine jx_vr (pc' := 43) (as := [.int (i32 (3)), .int (i32 (s)), .int (i32 (r16)), .int (i32 (0)), .int (i32 (0))]) (st := []) rfl rfl rfl rfl ⟨rfl, rfl, Nat.le_of_ble_eq_true rfl⟩ rfl rfl (c_node (dd := d) (hd := by omega) (hW := hW22) (kind := 3) (a := s) (b := r16) (c := 0) (e := 0) (nd := nd2_20) (e_nd := show G14 31 = nd2_20 from (e29))  (h_kind := ⟨(by decide), (by decide)⟩) (h_a := ⟨(Int.le_trans (by decide : (-2147483648 : Int) ≤ -2147483648) h_s.1), (Int.le_trans h_s.2 (by decide : (2147483647 : Int) ≤ 2147483647))⟩) (h_b := ⟨(Int.le_trans (by decide : (-2147483648 : Int) ≤ -2147483648) b25.1), (Int.le_trans b25.2 (by decide : (2147483647 : Int) ≤ 2147483647))⟩) (h_c := ⟨(by decide), (by decide)⟩) (h_e := ⟨(by decide), (by decide)⟩)  (p_0 := by omega) (p_1 := by omega)) (fun o V' hq => ?_)
            obtain ⟨G60, A61, nd2_62, rfl, rfl, hW63, hF64, hQ65, e66, p67, -⟩ := hq
            have hF69 := Fr_tr hF38 hF64 (Fr_sub (by decide)) (Fr_sub (by decide))
            have hP70 := Pf_tr hP39 hQ65 (by omega)
            have bnd2_62 : (0 : Int) ≤ nd2_62 ∧ nd2_62 ≤ 6999 := e66 ▸ hW63.1 31
            refine .inr ⟨_, rfl, ?_⟩
            refine jx_rt (v := some (.int (i32 (nd2_20)))) rfl rfl rfl rfl rfl rfl ?_
            have z71 := tz_f (tk2_21)
            exact ⟨_, _, _, at2_17, fk2_18, op2_19, nd2_62, tk2_21, rfl, rfl, hW63, hF69, hP70, by omega, ((hF64.1 10 rfl).trans (e26)), ((hF64.1 16 rfl).trans (e27)), ((hF64.1 15 rfl).trans (e28)), (e66), ((hF64.1 11 rfl).trans (e30)), by omega, by omega, by omega, by omega, by omega, by omega, by first | exact Or.inl (⟨by omega, by omega, by omega⟩) | exact Or.inr ((⟨by omega, by omega, by omega⟩))⟩
        · have _q := h13
          exact absurd h13 (by omega)
      · have _q : True := trivial
        refine jx_if_ne (pc' := 21) (tg := 29) rfl rfl rfl (by decide) (by decide) (fun h72 => ?_) (fun h72 => ?_)
        · have _q := h72
          exact absurd h72 (by omega)
        · have _q := h72
          refine jx_ld (pc' := 22) (l' := [(0, .ref 66), (1, .int (i32 (s))), (2, .int (i32 (place)))]) (st' := [.ref 66]) rfl (jl_aloadn rfl) ?_
          refine jx_ar (pc' := 23) (st' := [.int (i32 (4)), .ref 66]) rfl rfl rfl rfl ?_
          refine jx_ld (pc' := 24) (l' := [(0, .ref 66), (1, .int (i32 (s))), (2, .int (i32 (place)))]) (st' := [.int (i32 (place)), .int (i32 (4)), .ref 66]) rfl (jl_iloadn rfl) ?_
          refine jx_vr (pc' := 27) (as := [.int (i32 (4)), .int (i32 (place))]) (st := []) rfl rfl rfl rfl ⟨rfl, rfl, Nat.le_of_ble_eq_true rfl⟩ rfl rfl (c_fail (dd := d) (hd := by omega) (hW := hW) (kind := 4) (place := place) (fk := fk) (e_fk := show G 16 = fk from (e_fk))  (h_kind := ⟨(by decide), (by decide)⟩) (h_place := ⟨(Int.le_trans (by decide : (-2147483648 : Int) ≤ -2147483648) h_place.1), (Int.le_trans h_place.2 (by decide : (2147483647 : Int) ≤ 2147483647))⟩)  (p_0 := by omega) (p_1 := by omega)) (fun o V' hq => ?_)
          obtain ⟨G73, A74, fk2_75, rfl, rfl, hW76, hF77, e78, p79, -⟩ := hq
          have hF81 := Fr_tr hF0 hF77 (Fr_sub (by decide)) (Fr_sub (by decide))
          have hP82 := Pf_f hP0 hF77 (by decide)
          have bfk2_75 : (0 : Int) ≤ fk2_75 ∧ fk2_75 ≤ 6 := e78 ▸ hW76.1 16
          refine .inl ⟨rfl, ?_⟩
          refine jx_ar (pc' := 28) (st' := [.int (i32 (0))]) rfl rfl rfl rfl ?_
          refine jx_rt (v := some (.int (i32 (0)))) rfl rfl rfl rfl rfl rfl ?_
          have z83 := tz_f (tk0)
          exact ⟨_, _, _, at0, fk2_75, op0, nd, tk0, rfl, rfl, hW76, hF81, hP82, by omega, ((hF77.1 10 rfl).trans (e_at0)), (e78), ((hF77.1 15 rfl).trans (e_op0)), ((hF77.1 31 rfl).trans (e_nd)), ((hF77.1 11 rfl).trans (e_tk0)), by omega, by omega, by omega, by omega, by omega, by omega, by first | exact Or.inl (⟨by omega, by omega, by omega⟩) | exact Or.inr ((⟨by omega, by omega, by omega⟩))⟩
  · have _q : True := trivial
    refine jx_if_eq (pc' := 9) (tg := 44) rfl rfl rfl (by decide) (by decide) (fun h84 => ?_) (fun h84 => ?_)
    · have _q := h84
      refine jx_ld (pc' := 45) (l' := [(0, .ref 66), (1, .int (i32 (s))), (2, .int (i32 (place)))]) (st' := [.ref 66]) rfl (jl_aloadn rfl) ?_
      refine jr_get (pc' := 48) (i := 21) (v := .ref 74) rfl rfl (by decide) rfl rfl ?_
      refine jx_ld (pc' := 49) (l' := [(0, .ref 66), (1, .int (i32 (s))), (2, .int (i32 (place)))]) (st' := [.int (i32 (s)), .ref 74]) rfl (jl_iloadn rfl) ?_
      have b85 : (0 : Int) ≤ A 7 (s).toNat ∧ A 7 (s).toNat ≤ 14 := hW.2 7 _
      refine jr_ldv (pc' := 50) (i := 7) (m := 260) (z := s) (y := A 7 (s).toNat) rfl (by decide) rfl (by decide) (by omega) (by omega) rfl (show A 7 (s).toNat = A 7 (s).toNat from rfl) ?_
      refine jx_st (pc' := 53) (as := [.int (i32 (A 7 (s).toNat))]) (st := []) rfl rfl ⟨rfl, Nat.le_of_ble_eq_true rfl⟩ rfl rfl rfl (c_isValue (dd := d) (hd := by omega) (k := A 7 (s).toNat)   (h_k := ⟨(Int.le_trans (by decide : (-2147483648 : Int) ≤ 0) b85.1), (Int.le_trans b85.2 (by decide : (14 : Int) ≤ 2147483647))⟩)  ) (fun o V' hq => ?_)
      obtain ⟨r86, rfl, rfl, b87, q88⟩ := hq
      refine .inr ⟨_, rfl, ?_⟩
      rcases q88 with rfl | rfl
      · have _q : True := trivial
        refine jx_if_ne (pc' := 56) (tg := 64) rfl rfl rfl (by decide) (by decide) (fun h89 => ?_) (fun h89 => ?_)
        · have _q := h89
          refine jx_ld (pc' := 65) (l' := [(0, .ref 66), (1, .int (i32 (s))), (2, .int (i32 (place)))]) (st' := [.ref 66]) rfl (jl_aloadn rfl) ?_
          refine jx_ar (pc' := 66) (st' := [.int (i32 (2)), .ref 66]) rfl rfl rfl rfl ?_
          refine jx_ld (pc' := 67) (l' := [(0, .ref 66), (1, .int (i32 (s))), (2, .int (i32 (place)))]) (st' := [.int (i32 (s)), .int (i32 (2)), .ref 66]) rfl (jl_iloadn rfl) ?_
          refine jx_ar (pc' := 68) (st' := [.int (i32 (0)), .int (i32 (s)), .int (i32 (2)), .ref 66]) rfl rfl rfl rfl ?_
          refine jx_ar (pc' := 69) (st' := [.int (i32 (0)), .int (i32 (0)), .int (i32 (s)), .int (i32 (2)), .ref 66]) rfl rfl rfl rfl ?_
          refine jx_ar (pc' := 70) (st' := [.int (i32 (0)), .int (i32 (0)), .int (i32 (0)), .int (i32 (s)), .int (i32 (2)), .ref 66]) rfl rfl rfl rfl ?_
          refine jx_vr (pc' := 73) (as := [.int (i32 (2)), .int (i32 (s)), .int (i32 (0)), .int (i32 (0)), .int (i32 (0))]) (st := []) rfl rfl rfl rfl ⟨rfl, rfl, Nat.le_of_ble_eq_true rfl⟩ rfl rfl (c_node (dd := d) (hd := by omega) (hW := hW) (kind := 2) (a := s) (b := 0) (c := 0) (e := 0) (nd := nd) (e_nd := show G 31 = nd from (e_nd))  (h_kind := ⟨(by decide), (by decide)⟩) (h_a := ⟨(Int.le_trans (by decide : (-2147483648 : Int) ≤ -2147483648) h_s.1), (Int.le_trans h_s.2 (by decide : (2147483647 : Int) ≤ 2147483647))⟩) (h_b := ⟨(by decide), (by decide)⟩) (h_c := ⟨(by decide), (by decide)⟩) (h_e := ⟨(by decide), (by decide)⟩)  (p_0 := by omega) (p_1 := by omega)) (fun o V' hq => ?_)
          obtain ⟨G90, A91, nd2_92, rfl, rfl, hW93, hF94, hQ95, e96, p97, -⟩ := hq
          have hF99 := Fr_tr hF0 hF94 (Fr_sub (by decide)) (Fr_sub (by decide))
          have hP100 := Pf_tr hP0 hQ95 (by omega)
          have bnd2_92 : (0 : Int) ≤ nd2_92 ∧ nd2_92 ≤ 6999 := e96 ▸ hW93.1 31
          refine .inr ⟨_, rfl, ?_⟩
          refine jx_rt (v := some (.int (i32 (nd)))) rfl rfl rfl rfl rfl rfl ?_
          have z101 := tz_f (tk0)
          exact ⟨_, _, _, at0, fk, op0, nd2_92, tk0, rfl, rfl, hW93, hF99, hP100, by omega, ((hF94.1 10 rfl).trans (e_at0)), ((hF94.1 16 rfl).trans (e_fk)), ((hF94.1 15 rfl).trans (e_op0)), (e96), ((hF94.1 11 rfl).trans (e_tk0)), by omega, by omega, by omega, by omega, by omega, by omega, by first | exact Or.inl (⟨by omega, by omega, by omega⟩) | exact Or.inr ((⟨by omega, by omega, by omega⟩))⟩
        · have _q := h89
          exact absurd h89 (by omega)
      · have _q : True := trivial
        refine jx_if_ne (pc' := 56) (tg := 64) rfl rfl rfl (by decide) (by decide) (fun h102 => ?_) (fun h102 => ?_)
        · have _q := h102
          exact absurd h102 (by omega)
        · have _q := h102
          refine jx_ld (pc' := 57) (l' := [(0, .ref 66), (1, .int (i32 (s))), (2, .int (i32 (place)))]) (st' := [.ref 66]) rfl (jl_aloadn rfl) ?_
          refine jx_ar (pc' := 58) (st' := [.int (i32 (4)), .ref 66]) rfl rfl rfl rfl ?_
          refine jx_ld (pc' := 59) (l' := [(0, .ref 66), (1, .int (i32 (s))), (2, .int (i32 (place)))]) (st' := [.int (i32 (place)), .int (i32 (4)), .ref 66]) rfl (jl_iloadn rfl) ?_
          refine jx_vr (pc' := 62) (as := [.int (i32 (4)), .int (i32 (place))]) (st := []) rfl rfl rfl rfl ⟨rfl, rfl, Nat.le_of_ble_eq_true rfl⟩ rfl rfl (c_fail (dd := d) (hd := by omega) (hW := hW) (kind := 4) (place := place) (fk := fk) (e_fk := show G 16 = fk from (e_fk))  (h_kind := ⟨(by decide), (by decide)⟩) (h_place := ⟨(Int.le_trans (by decide : (-2147483648 : Int) ≤ -2147483648) h_place.1), (Int.le_trans h_place.2 (by decide : (2147483647 : Int) ≤ 2147483647))⟩)  (p_0 := by omega) (p_1 := by omega)) (fun o V' hq => ?_)
          obtain ⟨G103, A104, fk2_105, rfl, rfl, hW106, hF107, e108, p109, -⟩ := hq
          have hF111 := Fr_tr hF0 hF107 (Fr_sub (by decide)) (Fr_sub (by decide))
          have hP112 := Pf_f hP0 hF107 (by decide)
          have bfk2_105 : (0 : Int) ≤ fk2_105 ∧ fk2_105 ≤ 6 := e108 ▸ hW106.1 16
          refine .inl ⟨rfl, ?_⟩
          refine jx_ar (pc' := 63) (st' := [.int (i32 (0))]) rfl rfl rfl rfl ?_
          refine jx_rt (v := some (.int (i32 (0)))) rfl rfl rfl rfl rfl rfl ?_
          have z113 := tz_f (tk0)
          exact ⟨_, _, _, at0, fk2_105, op0, nd, tk0, rfl, rfl, hW106, hF111, hP112, by omega, ((hF107.1 10 rfl).trans (e_at0)), (e108), ((hF107.1 15 rfl).trans (e_op0)), ((hF107.1 31 rfl).trans (e_nd)), ((hF107.1 11 rfl).trans (e_tk0)), by omega, by omega, by omega, by omega, by omega, by omega, by first | exact Or.inl (⟨by omega, by omega, by omega⟩) | exact Or.inr ((⟨by omega, by omega, by omega⟩))⟩
    · have _q := h84
      exact absurd h84 (by omega)
set_option maxRecDepth 20000 in
set_option maxHeartbeats 4000000 in
theorem c_readOperand {X : jX} {k : Nat} (hE : RE X k) {dd : Nat} {c0 c1 : jC} {G : Nat → Int} {A : Nat → Nat → Int} {T : jH} {ln le at0 fk op0 nd tk0 : Int} (hd : 6 * k + 14 ≤ dd) (hW : Wk G A) (e_ln : G 9 = ln) (e_le : A 4 (ln).toNat = le) (e_at0 : G 10 = at0) (e_fk : G 16 = fk) (e_op0 : G 15 = op0) (e_nd : G 31 = nd) (e_tk0 : G 11 = tk0) (p_0 : 0 ≤ op0) (p_1 : op0 ≤ 9) (p_2 : op0 ≤ 8 ∨ 1 ≤ fk) (p_3 : 9 - op0 ≤ ((k + 1 : Nat) : Int) ∨ 1 ≤ fk) (p_4 : nd ≤ 2 * at0 - tz tk0 + 50) (p_5 : at0 ≤ le) : wk X dd 288 [.ref 66] (rV c0 c1 G A T) (fun o V' => ∃ (G' : Nat → Int) (A' : Nat → Nat → Int) (r : Int) (at2 : Int) (fk2 : Int) (op2 : Int) (nd2 : Int) (tk2 : Int), V' = rV c0 c1 G' A' T ∧ o = .inl (some (.int (i32 r))) ∧ Wk G' A' ∧ Fr [10, 11, 12, 13, 14, 15, 16, 17, 18, 31] [15, 16, 17, 18, 19, 20, 21, 22, 24, 28] G A G' A' ∧ Pf nd A A' ∧ ((-2147483648 : Int) ≤ r ∧ r ≤ 2147483647) ∧ G' 10 = at2 ∧ G' 16 = fk2 ∧ G' 15 = op2 ∧ G' 31 = nd2 ∧ G' 11 = tk2 ∧ (at0 ≤ at2) ∧ (at2 ≤ le) ∧ (nd ≤ nd2) ∧ (op2 = op0) ∧ (0 ≤ r) ∧ (r ≤ nd2) ∧ (((1 ≤ fk) ∧ (1 ≤ fk2) ∧ (nd2 = nd) ∧ (at2 = at0) ∧ (tk2 = tk0) ∧ (tz tk2 = tz tk0)) ∨ ((fk = 0) ∧ (1 ≤ fk2) ∧ (nd2 - nd ≤ (2 * at2 - tz tk2) - (2 * at0 - tz tk0) + 1)) ∨ ((fk = 0) ∧ (fk2 = 0) ∧ (nd2 - nd ≤ (2 * at2 - tz tk2) - (2 * at0 - tz tk0))))) := by
  obtain ⟨d, rfl⟩ : ∃ d, dd = d + 1 := ⟨dd - 1, by omega⟩
  refine wk_of (e := jm288) rfl (Nat.le_of_ble_eq_true rfl) ?_
  show wj X d jm288 (0, [(0, .ref 66)], [], rV c0 c1 G A T) _
  have hF0 : Fr [10, 11, 12, 13, 14, 15, 16, 17, 18, 31] [15, 16, 17, 18, 19, 20, 21, 22, 24, 28] G A G A := Fr_rf
  have hP0 : Pf nd A A := Pf_rf
  have b_ln : (0 : Int) ≤ ln ∧ ln ≤ 3000 := e_ln ▸ hW.1 9
  have b_le : (0 : Int) ≤ le ∧ le ≤ 3000 := e_le ▸ hW.2 4 _
  have b_at0 : (0 : Int) ≤ at0 ∧ at0 ≤ 3002 := e_at0 ▸ hW.1 10
  have b_fk : (0 : Int) ≤ fk ∧ fk ≤ 6 := e_fk ▸ hW.1 16
  have b_op0 : (-2147483648 : Int) ≤ op0 ∧ op0 ≤ 2147483647 := e_op0 ▸ hW.1 15
  have b_nd : (0 : Int) ≤ nd ∧ nd ≤ 6999 := e_nd ▸ hW.1 31
  have z_tk0 := tz_f tk0
  have b_tk0 : (0 : Int) ≤ tk0 ∧ tk0 ≤ 5 := e_tk0 ▸ hW.1 11
  refine jx_ld (pc' := 1) (l' := [(0, .ref 66)]) (st' := [.ref 66]) rfl (jl_aloadn rfl) ?_
  refine jx_vr (pc' := 4) (as := []) (st := []) rfl rfl rfl rfl ⟨rfl, rfl, Nat.le_of_ble_eq_true rfl⟩ rfl rfl (c_bad (dd := d) (hd := by omega) (hW := hW)  (fk := fk) (e_fk := show G 16 = fk from (e_fk))    ) (fun o V' hq => ?_)
  obtain ⟨r1, rfl, rfl, b2, q3⟩ := hq
  refine .inr ⟨_, rfl, ?_⟩
  rcases q3 with ⟨rfl, a4⟩ | ⟨rfl, a5⟩
  · have _q : True := trivial
    refine jx_if_eq (pc' := 7) (tg := 9) rfl rfl rfl (by decide) (by decide) (fun h6 => ?_) (fun h6 => ?_)
    · have _q := h6
      exact absurd h6 (by omega)
    · have _q := h6
      refine jx_ar (pc' := 8) (st' := [.int (i32 (0))]) rfl rfl rfl rfl ?_
      refine jx_rt (v := some (.int (i32 (0)))) rfl rfl rfl rfl rfl rfl ?_
      have z7 := tz_f (tk0)
      exact ⟨_, _, _, at0, fk, op0, nd, tk0, rfl, rfl, hW, hF0, hP0, by omega, (e_at0), (e_fk), (e_op0), (e_nd), (e_tk0), by omega, by omega, by omega, by omega, by omega, by omega, by first | exact Or.inl (⟨by omega, by omega, by omega, by omega, by omega, by omega⟩) | exact Or.inr (Or.inl (⟨by omega, by omega, by omega⟩)) | exact Or.inr (Or.inr ((⟨by omega, by omega, by omega⟩)))⟩
  · have _q : True := trivial
    refine jx_if_eq (pc' := 7) (tg := 9) rfl rfl rfl (by decide) (by decide) (fun h8 => ?_) (fun h8 => ?_)
    · have _q := h8
      refine jx_ld (pc' := 10) (l' := [(0, .ref 66)]) (st' := [.ref 66]) rfl (jl_aloadn rfl) ?_
      have z9 := tz_f (tk0)
      refine jr_get (pc' := 13) (i := 11) (v := .int (i32 (tk0))) rfl rfl (by decide) (rFv_eq (by decide) (show G 11 = tk0 from (e_tk0))) rfl ?_
      refine jx_ar (pc' := 14) (st' := [.int (i32 (3)), .int (i32 (tk0))]) rfl rfl rfl rfl ?_
      refine jx_icmp_eq (pc' := 17) (tg := 35) rfl rfl rfl (Int.le_trans (by decide : (-2147483648 : Int) ≤ 0) b_tk0.1) (Int.le_trans b_tk0.2 (by decide : (5 : Int) ≤ 2147483647)) (by decide) (by decide) (fun h10 => ?_) (fun h10 => ?_)
      · have _q := h10
        refine jx_ld (pc' := 36) (l' := [(0, .ref 66)]) (st' := [.ref 66]) rfl (jl_aloadn rfl) ?_
        have z11 := tz_f (tk0)
        refine jr_get (pc' := 39) (i := 11) (v := .int (i32 (tk0))) rfl rfl (by decide) (rFv_eq (by decide) (show G 11 = tk0 from (e_tk0))) rfl ?_
        refine jx_ar (pc' := 40) (st' := [.int (i32 (3)), .int (i32 (tk0))]) rfl rfl rfl rfl ?_
        refine jx_icmp_ne (pc' := 43) (tg := 50) rfl rfl rfl (Int.le_trans (by decide : (-2147483648 : Int) ≤ 0) b_tk0.1) (Int.le_trans b_tk0.2 (by decide : (5 : Int) ≤ 2147483647)) (by decide) (by decide) (fun h12 => ?_) (fun h12 => ?_)
        · have _q := h12
          refine jx_ld (pc' := 51) (l' := [(0, .ref 66)]) (st' := [.ref 66]) rfl (jl_aloadn rfl) ?_
          refine jx_ar (pc' := 53) (st' := [.int (i32 (14)), .ref 66]) rfl rfl rfl rfl ?_
          have b13 : (-2147483648 : Int) ≤ G 13 ∧ G 13 ≤ 2147483647 := hW.1 13
          refine jx_vr (pc' := 56) (as := [.int (i32 (14))]) (st := []) rfl rfl rfl rfl ⟨rfl, rfl, Nat.le_of_ble_eq_true rfl⟩ rfl rfl (c_isKey (dd := d) (hd := by omega) (hW := hW) (k := 14) (tk := tk0) (e_tk := show G 11 = tk0 from (e_tk0)) (tn := G 13) (e_tn := show G 13 = G 13 from rfl)  (h_k := ⟨(by decide), (by decide)⟩)  ) (fun o V' hq => ?_)
          obtain ⟨r14, rfl, rfl, b15, q16⟩ := hq
          refine .inr ⟨_, rfl, ?_⟩
          rcases q16 with ⟨rfl, a17, a18, a19⟩ | rfl
          · have _q : True := trivial
            refine jx_if_eq (pc' := 59) (tg := 63) rfl rfl rfl (by decide) (by decide) (fun h20 => ?_) (fun h20 => ?_)
            · have _q := h20
              exact absurd h20 (by omega)
            · have _q := h20
              refine jx_ar (pc' := 60) (st' := [.int (i32 (1))]) rfl rfl rfl rfl ?_
              refine jx_go (tg := 64) rfl rfl ?_
              refine jx_ld (pc' := 65) (l' := jSto1 [(0, .ref 66)] 1 (.int (i32 (1)))) (st' := []) rfl rfl ?_
              obtain ⟨L21, eL21⟩ : ∃ q, q = jSto1 [(0, .ref 66)] 1 (.int (i32 (1))) := ⟨_, rfl⟩
              rw [← eL21]
              have gL21_0 : jGet L21 0 = some (.ref 66) := eL21 ▸ jg_ne (by decide) (rfl : jGet [(0, .ref 66)] 0 = some (.ref 66)) rfl
              have gL21_1 : jGet L21 1 = some (.int (i32 (1))) := eL21 ▸ jg_eq
              refine jx_ld (pc' := 66) (l' := L21) (st' := [.ref 66]) rfl (jl_aloadn gL21_0) ?_
              refine jx_vr (pc' := 69) (as := []) (st := []) rfl rfl rfl rfl ⟨rfl, rfl, Nat.le_of_ble_eq_true rfl⟩ rfl rfl (c_next (dd := d) (hd := by omega) (hW := hW)  (ln := ln) (e_ln := show G 9 = ln from (e_ln)) (le := le) (e_le := show A 4 (ln).toNat = le from (e_le)) (at0 := at0) (e_at0 := show G 10 = at0 from (e_at0))    (p_0 := by omega)) (fun o V' hq => ?_)
              obtain ⟨G22, A23, at2_24, tk2_25, rfl, rfl, hW26, hF27, e28, e29, p30, p31, p32, -⟩ := hq
              have hF34 := Fr_tr hF0 hF27 (Fr_sub (by decide)) (Fr_sub (by decide))
              have hP35 := Pf_f hP0 hF27 (by decide)
              have bat2_24 : (0 : Int) ≤ at2_24 ∧ at2_24 ≤ 3002 := e28 ▸ hW26.1 10
              have ztk2_25 := tz_b tk2_25
              have btk2_25 : (0 : Int) ≤ tk2_25 ∧ tk2_25 ≤ 5 := e29 ▸ hW26.1 11
              refine .inl ⟨rfl, ?_⟩
              refine jx_ld (pc' := 70) (l' := L21) (st' := [.ref 66]) rfl (jl_aloadn gL21_0) ?_
              refine jx_ar (pc' := 71) (st' := [.int (i32 (1)), .ref 66]) rfl rfl rfl rfl ?_
              refine jx_ld (pc' := 72) (l' := L21) (st' := [.int (i32 (1)), .int (i32 (1)), .ref 66]) rfl (jl_iloadn gL21_1) ?_
              refine jx_ar (pc' := 73) (st' := [.int (i32 (0)), .int (i32 (1)), .int (i32 (1)), .ref 66]) rfl rfl rfl rfl ?_
              refine jx_ar (pc' := 74) (st' := [.int (i32 (0)), .int (i32 (0)), .int (i32 (1)), .int (i32 (1)), .ref 66]) rfl rfl rfl rfl ?_
              refine jx_ar (pc' := 75) (st' := [.int (i32 (0)), .int (i32 (0)), .int (i32 (0)), .int (i32 (1)), .int (i32 (1)), .ref 66]) rfl rfl rfl rfl ?_
              refine jx_vr (pc' := 78) (as := [.int (i32 (1)), .int (i32 (1)), .int (i32 (0)), .int (i32 (0)), .int (i32 (0))]) (st := []) rfl rfl rfl rfl ⟨rfl, rfl, Nat.le_of_ble_eq_true rfl⟩ rfl rfl (c_node (dd := d) (hd := by omega) (hW := hW26) (kind := 1) (a := 1) (b := 0) (c := 0) (e := 0) (nd := nd) (e_nd := show G22 31 = nd from ((hF27.1 31 rfl).trans (e_nd)))  (h_kind := ⟨(by decide), (by decide)⟩) (h_a := ⟨(by decide), (by decide)⟩) (h_b := ⟨(by decide), (by decide)⟩) (h_c := ⟨(by decide), (by decide)⟩) (h_e := ⟨(by decide), (by decide)⟩)  (p_0 := by omega) (p_1 := by omega)) (fun o V' hq => ?_)
              obtain ⟨G36, A37, nd2_38, rfl, rfl, hW39, hF40, hQ41, e42, p43, -⟩ := hq
              have hF45 := Fr_tr hF34 hF40 (Fr_sub (by decide)) (Fr_sub (by decide))
              have hP46 := Pf_tr hP35 hQ41 (by omega)
              have bnd2_38 : (0 : Int) ≤ nd2_38 ∧ nd2_38 ≤ 6999 := e42 ▸ hW39.1 31
              refine .inr ⟨_, rfl, ?_⟩
              refine jx_rt (v := some (.int (i32 (nd)))) rfl rfl rfl rfl rfl rfl ?_
              have z47 := tz_f (tk2_25)
              exact ⟨_, _, _, at2_24, fk, op0, nd2_38, tk2_25, rfl, rfl, hW39, hF45, hP46, by omega, ((hF40.1 10 rfl).trans (e28)), ((hF40.1 16 rfl).trans ((hF27.1 16 rfl).trans (e_fk))), ((hF40.1 15 rfl).trans ((hF27.1 15 rfl).trans (e_op0))), (e42), ((hF40.1 11 rfl).trans (e29)), by omega, by omega, by omega, by omega, by omega, by omega, by first | exact Or.inl (⟨by omega, by omega, by omega, by omega, by omega, by omega⟩) | exact Or.inr (Or.inl (⟨by omega, by omega, by omega⟩)) | exact Or.inr (Or.inr ((⟨by omega, by omega, by omega⟩)))⟩
          · have _q : True := trivial
            refine jx_if_eq (pc' := 59) (tg := 63) rfl rfl rfl (by decide) (by decide) (fun h48 => ?_) (fun h48 => ?_)
            · have _q := h48
              refine jx_ar (pc' := 64) (st' := [.int (i32 (0))]) rfl rfl rfl rfl ?_
              refine jx_ld (pc' := 65) (l' := jSto1 [(0, .ref 66)] 1 (.int (i32 (0)))) (st' := []) rfl rfl ?_
              obtain ⟨L49, eL49⟩ : ∃ q, q = jSto1 [(0, .ref 66)] 1 (.int (i32 (0))) := ⟨_, rfl⟩
              rw [← eL49]
              have gL49_0 : jGet L49 0 = some (.ref 66) := eL49 ▸ jg_ne (by decide) (rfl : jGet [(0, .ref 66)] 0 = some (.ref 66)) rfl
              have gL49_1 : jGet L49 1 = some (.int (i32 (0))) := eL49 ▸ jg_eq
              refine jx_ld (pc' := 66) (l' := L49) (st' := [.ref 66]) rfl (jl_aloadn gL49_0) ?_
              refine jx_vr (pc' := 69) (as := []) (st := []) rfl rfl rfl rfl ⟨rfl, rfl, Nat.le_of_ble_eq_true rfl⟩ rfl rfl (c_next (dd := d) (hd := by omega) (hW := hW)  (ln := ln) (e_ln := show G 9 = ln from (e_ln)) (le := le) (e_le := show A 4 (ln).toNat = le from (e_le)) (at0 := at0) (e_at0 := show G 10 = at0 from (e_at0))    (p_0 := by omega)) (fun o V' hq => ?_)
              obtain ⟨G50, A51, at2_52, tk2_53, rfl, rfl, hW54, hF55, e56, e57, p58, p59, p60, -⟩ := hq
              have hF62 := Fr_tr hF0 hF55 (Fr_sub (by decide)) (Fr_sub (by decide))
              have hP63 := Pf_f hP0 hF55 (by decide)
              have bat2_52 : (0 : Int) ≤ at2_52 ∧ at2_52 ≤ 3002 := e56 ▸ hW54.1 10
              have ztk2_53 := tz_b tk2_53
              have btk2_53 : (0 : Int) ≤ tk2_53 ∧ tk2_53 ≤ 5 := e57 ▸ hW54.1 11
              refine .inl ⟨rfl, ?_⟩
              refine jx_ld (pc' := 70) (l' := L49) (st' := [.ref 66]) rfl (jl_aloadn gL49_0) ?_
              refine jx_ar (pc' := 71) (st' := [.int (i32 (1)), .ref 66]) rfl rfl rfl rfl ?_
              refine jx_ld (pc' := 72) (l' := L49) (st' := [.int (i32 (0)), .int (i32 (1)), .ref 66]) rfl (jl_iloadn gL49_1) ?_
              refine jx_ar (pc' := 73) (st' := [.int (i32 (0)), .int (i32 (0)), .int (i32 (1)), .ref 66]) rfl rfl rfl rfl ?_
              refine jx_ar (pc' := 74) (st' := [.int (i32 (0)), .int (i32 (0)), .int (i32 (0)), .int (i32 (1)), .ref 66]) rfl rfl rfl rfl ?_
              refine jx_ar (pc' := 75) (st' := [.int (i32 (0)), .int (i32 (0)), .int (i32 (0)), .int (i32 (0)), .int (i32 (1)), .ref 66]) rfl rfl rfl rfl ?_
              refine jx_vr (pc' := 78) (as := [.int (i32 (1)), .int (i32 (0)), .int (i32 (0)), .int (i32 (0)), .int (i32 (0))]) (st := []) rfl rfl rfl rfl ⟨rfl, rfl, Nat.le_of_ble_eq_true rfl⟩ rfl rfl (c_node (dd := d) (hd := by omega) (hW := hW54) (kind := 1) (a := 0) (b := 0) (c := 0) (e := 0) (nd := nd) (e_nd := show G50 31 = nd from ((hF55.1 31 rfl).trans (e_nd)))  (h_kind := ⟨(by decide), (by decide)⟩) (h_a := ⟨(by decide), (by decide)⟩) (h_b := ⟨(by decide), (by decide)⟩) (h_c := ⟨(by decide), (by decide)⟩) (h_e := ⟨(by decide), (by decide)⟩)  (p_0 := by omega) (p_1 := by omega)) (fun o V' hq => ?_)
              obtain ⟨G64, A65, nd2_66, rfl, rfl, hW67, hF68, hQ69, e70, p71, -⟩ := hq
              have hF73 := Fr_tr hF62 hF68 (Fr_sub (by decide)) (Fr_sub (by decide))
              have hP74 := Pf_tr hP63 hQ69 (by omega)
              have bnd2_66 : (0 : Int) ≤ nd2_66 ∧ nd2_66 ≤ 6999 := e70 ▸ hW67.1 31
              refine .inr ⟨_, rfl, ?_⟩
              refine jx_rt (v := some (.int (i32 (nd)))) rfl rfl rfl rfl rfl rfl ?_
              have z75 := tz_f (tk2_53)
              exact ⟨_, _, _, at2_52, fk, op0, nd2_66, tk2_53, rfl, rfl, hW67, hF73, hP74, by omega, ((hF68.1 10 rfl).trans (e56)), ((hF68.1 16 rfl).trans ((hF55.1 16 rfl).trans (e_fk))), ((hF68.1 15 rfl).trans ((hF55.1 15 rfl).trans (e_op0))), (e70), ((hF68.1 11 rfl).trans (e57)), by omega, by omega, by omega, by omega, by omega, by omega, by first | exact Or.inl (⟨by omega, by omega, by omega, by omega, by omega, by omega⟩) | exact Or.inr (Or.inl (⟨by omega, by omega, by omega⟩)) | exact Or.inr (Or.inr ((⟨by omega, by omega, by omega⟩)))⟩
            · have _q := h48
              exact absurd h48 (by omega)
        · have _q := h12
          refine jx_ld (pc' := 44) (l' := [(0, .ref 66)]) (st' := [.ref 66]) rfl (jl_aloadn rfl) ?_
          have b76 : (-2147483648 : Int) ≤ G 13 ∧ G 13 ≤ 2147483647 := hW.1 13
          refine jr_get (pc' := 47) (i := 13) (v := .int (i32 (G 13))) rfl rfl (by decide) rfl rfl ?_
          refine jx_go (tg := 64) rfl rfl ?_
          refine jx_ld (pc' := 65) (l' := jSto1 [(0, .ref 66)] 1 (.int (i32 (G 13)))) (st' := []) rfl rfl ?_
          obtain ⟨L77, eL77⟩ : ∃ q, q = jSto1 [(0, .ref 66)] 1 (.int (i32 (G 13))) := ⟨_, rfl⟩
          rw [← eL77]
          have gL77_0 : jGet L77 0 = some (.ref 66) := eL77 ▸ jg_ne (by decide) (rfl : jGet [(0, .ref 66)] 0 = some (.ref 66)) rfl
          have gL77_1 : jGet L77 1 = some (.int (i32 (G 13))) := eL77 ▸ jg_eq
          refine jx_ld (pc' := 66) (l' := L77) (st' := [.ref 66]) rfl (jl_aloadn gL77_0) ?_
          refine jx_vr (pc' := 69) (as := []) (st := []) rfl rfl rfl rfl ⟨rfl, rfl, Nat.le_of_ble_eq_true rfl⟩ rfl rfl (c_next (dd := d) (hd := by omega) (hW := hW)  (ln := ln) (e_ln := show G 9 = ln from (e_ln)) (le := le) (e_le := show A 4 (ln).toNat = le from (e_le)) (at0 := at0) (e_at0 := show G 10 = at0 from (e_at0))    (p_0 := by omega)) (fun o V' hq => ?_)
          obtain ⟨G78, A79, at2_80, tk2_81, rfl, rfl, hW82, hF83, e84, e85, p86, p87, p88, -⟩ := hq
          have hF90 := Fr_tr hF0 hF83 (Fr_sub (by decide)) (Fr_sub (by decide))
          have hP91 := Pf_f hP0 hF83 (by decide)
          have bat2_80 : (0 : Int) ≤ at2_80 ∧ at2_80 ≤ 3002 := e84 ▸ hW82.1 10
          have ztk2_81 := tz_b tk2_81
          have btk2_81 : (0 : Int) ≤ tk2_81 ∧ tk2_81 ≤ 5 := e85 ▸ hW82.1 11
          refine .inl ⟨rfl, ?_⟩
          refine jx_ld (pc' := 70) (l' := L77) (st' := [.ref 66]) rfl (jl_aloadn gL77_0) ?_
          refine jx_ar (pc' := 71) (st' := [.int (i32 (1)), .ref 66]) rfl rfl rfl rfl ?_
          refine jx_ld (pc' := 72) (l' := L77) (st' := [.int (i32 (G 13)), .int (i32 (1)), .ref 66]) rfl (jl_iloadn gL77_1) ?_
          refine jx_ar (pc' := 73) (st' := [.int (i32 (0)), .int (i32 (G 13)), .int (i32 (1)), .ref 66]) rfl rfl rfl rfl ?_
          refine jx_ar (pc' := 74) (st' := [.int (i32 (0)), .int (i32 (0)), .int (i32 (G 13)), .int (i32 (1)), .ref 66]) rfl rfl rfl rfl ?_
          refine jx_ar (pc' := 75) (st' := [.int (i32 (0)), .int (i32 (0)), .int (i32 (0)), .int (i32 (G 13)), .int (i32 (1)), .ref 66]) rfl rfl rfl rfl ?_
          refine jx_vr (pc' := 78) (as := [.int (i32 (1)), .int (i32 (G 13)), .int (i32 (0)), .int (i32 (0)), .int (i32 (0))]) (st := []) rfl rfl rfl rfl ⟨rfl, rfl, Nat.le_of_ble_eq_true rfl⟩ rfl rfl (c_node (dd := d) (hd := by omega) (hW := hW82) (kind := 1) (a := G 13) (b := 0) (c := 0) (e := 0) (nd := nd) (e_nd := show G78 31 = nd from ((hF83.1 31 rfl).trans (e_nd)))  (h_kind := ⟨(by decide), (by decide)⟩) (h_a := ⟨(Int.le_trans (by decide : (-2147483648 : Int) ≤ -2147483648) b76.1), (Int.le_trans b76.2 (by decide : (2147483647 : Int) ≤ 2147483647))⟩) (h_b := ⟨(by decide), (by decide)⟩) (h_c := ⟨(by decide), (by decide)⟩) (h_e := ⟨(by decide), (by decide)⟩)  (p_0 := by omega) (p_1 := by omega)) (fun o V' hq => ?_)
          obtain ⟨G92, A93, nd2_94, rfl, rfl, hW95, hF96, hQ97, e98, p99, -⟩ := hq
          have hF101 := Fr_tr hF90 hF96 (Fr_sub (by decide)) (Fr_sub (by decide))
          have hP102 := Pf_tr hP91 hQ97 (by omega)
          have bnd2_94 : (0 : Int) ≤ nd2_94 ∧ nd2_94 ≤ 6999 := e98 ▸ hW95.1 31
          refine .inr ⟨_, rfl, ?_⟩
          refine jx_rt (v := some (.int (i32 (nd)))) rfl rfl rfl rfl rfl rfl ?_
          have z103 := tz_f (tk2_81)
          exact ⟨_, _, _, at2_80, fk, op0, nd2_94, tk2_81, rfl, rfl, hW95, hF101, hP102, by omega, ((hF96.1 10 rfl).trans (e84)), ((hF96.1 16 rfl).trans ((hF83.1 16 rfl).trans (e_fk))), ((hF96.1 15 rfl).trans ((hF83.1 15 rfl).trans (e_op0))), (e98), ((hF96.1 11 rfl).trans (e85)), by omega, by omega, by omega, by omega, by omega, by omega, by first | exact Or.inl (⟨by omega, by omega, by omega, by omega, by omega, by omega⟩) | exact Or.inr (Or.inl (⟨by omega, by omega, by omega⟩)) | exact Or.inr (Or.inr ((⟨by omega, by omega, by omega⟩)))⟩
      · have _q := h10
        refine jx_ld (pc' := 18) (l' := [(0, .ref 66)]) (st' := [.ref 66]) rfl (jl_aloadn rfl) ?_
        refine jx_ar (pc' := 20) (st' := [.int (i32 (14)), .ref 66]) rfl rfl rfl rfl ?_
        have b104 : (-2147483648 : Int) ≤ G 13 ∧ G 13 ≤ 2147483647 := hW.1 13
        refine jx_vr (pc' := 23) (as := [.int (i32 (14))]) (st := []) rfl rfl rfl rfl ⟨rfl, rfl, Nat.le_of_ble_eq_true rfl⟩ rfl rfl (c_isKey (dd := d) (hd := by omega) (hW := hW) (k := 14) (tk := tk0) (e_tk := show G 11 = tk0 from (e_tk0)) (tn := G 13) (e_tn := show G 13 = G 13 from rfl)  (h_k := ⟨(by decide), (by decide)⟩)  ) (fun o V' hq => ?_)
        obtain ⟨r105, rfl, rfl, b106, q107⟩ := hq
        refine .inr ⟨_, rfl, ?_⟩
        rcases q107 with ⟨rfl, a108, a109, a110⟩ | rfl
        · have _q : True := trivial
          refine jx_if_ne (pc' := 26) (tg := 35) rfl rfl rfl (by decide) (by decide) (fun h111 => ?_) (fun h111 => ?_)
          · have _q := h111
            refine jx_ld (pc' := 36) (l' := [(0, .ref 66)]) (st' := [.ref 66]) rfl (jl_aloadn rfl) ?_
            have z112 := tz_f (tk0)
            refine jr_get (pc' := 39) (i := 11) (v := .int (i32 (tk0))) rfl rfl (by decide) (rFv_eq (by decide) (show G 11 = tk0 from (e_tk0))) rfl ?_
            refine jx_ar (pc' := 40) (st' := [.int (i32 (3)), .int (i32 (tk0))]) rfl rfl rfl rfl ?_
            refine jx_icmp_ne (pc' := 43) (tg := 50) rfl rfl rfl (Int.le_trans (by decide : (-2147483648 : Int) ≤ 0) b_tk0.1) (Int.le_trans b_tk0.2 (by decide : (5 : Int) ≤ 2147483647)) (by decide) (by decide) (fun h113 => ?_) (fun h113 => ?_)
            · have _q := h113
              refine jx_ld (pc' := 51) (l' := [(0, .ref 66)]) (st' := [.ref 66]) rfl (jl_aloadn rfl) ?_
              refine jx_ar (pc' := 53) (st' := [.int (i32 (14)), .ref 66]) rfl rfl rfl rfl ?_
              refine jx_vr (pc' := 56) (as := [.int (i32 (14))]) (st := []) rfl rfl rfl rfl ⟨rfl, rfl, Nat.le_of_ble_eq_true rfl⟩ rfl rfl (c_isKey (dd := d) (hd := by omega) (hW := hW) (k := 14) (tk := tk0) (e_tk := show G 11 = tk0 from (e_tk0)) (tn := G 13) (e_tn := show G 13 = G 13 from rfl)  (h_k := ⟨(by decide), (by decide)⟩)  ) (fun o V' hq => ?_)
              obtain ⟨r114, rfl, rfl, b115, q116⟩ := hq
              refine .inr ⟨_, rfl, ?_⟩
              rcases q116 with ⟨rfl, a117, a118, a119⟩ | rfl
              · have _q : True := trivial
                refine jx_if_eq (pc' := 59) (tg := 63) rfl rfl rfl (by decide) (by decide) (fun h120 => ?_) (fun h120 => ?_)
                · have _q := h120
                  exact absurd h120 (by omega)
                · have _q := h120
                  refine jx_ar (pc' := 60) (st' := [.int (i32 (1))]) rfl rfl rfl rfl ?_
                  refine jx_go (tg := 64) rfl rfl ?_
                  refine jx_ld (pc' := 65) (l' := jSto1 [(0, .ref 66)] 1 (.int (i32 (1)))) (st' := []) rfl rfl ?_
                  obtain ⟨L121, eL121⟩ : ∃ q, q = jSto1 [(0, .ref 66)] 1 (.int (i32 (1))) := ⟨_, rfl⟩
                  rw [← eL121]
                  have gL121_0 : jGet L121 0 = some (.ref 66) := eL121 ▸ jg_ne (by decide) (rfl : jGet [(0, .ref 66)] 0 = some (.ref 66)) rfl
                  have gL121_1 : jGet L121 1 = some (.int (i32 (1))) := eL121 ▸ jg_eq
                  refine jx_ld (pc' := 66) (l' := L121) (st' := [.ref 66]) rfl (jl_aloadn gL121_0) ?_
                  refine jx_vr (pc' := 69) (as := []) (st := []) rfl rfl rfl rfl ⟨rfl, rfl, Nat.le_of_ble_eq_true rfl⟩ rfl rfl (c_next (dd := d) (hd := by omega) (hW := hW)  (ln := ln) (e_ln := show G 9 = ln from (e_ln)) (le := le) (e_le := show A 4 (ln).toNat = le from (e_le)) (at0 := at0) (e_at0 := show G 10 = at0 from (e_at0))    (p_0 := by omega)) (fun o V' hq => ?_)
                  obtain ⟨G122, A123, at2_124, tk2_125, rfl, rfl, hW126, hF127, e128, e129, p130, p131, p132, -⟩ := hq
                  have hF134 := Fr_tr hF0 hF127 (Fr_sub (by decide)) (Fr_sub (by decide))
                  have hP135 := Pf_f hP0 hF127 (by decide)
                  have bat2_124 : (0 : Int) ≤ at2_124 ∧ at2_124 ≤ 3002 := e128 ▸ hW126.1 10
                  have ztk2_125 := tz_b tk2_125
                  have btk2_125 : (0 : Int) ≤ tk2_125 ∧ tk2_125 ≤ 5 := e129 ▸ hW126.1 11
                  refine .inl ⟨rfl, ?_⟩
                  refine jx_ld (pc' := 70) (l' := L121) (st' := [.ref 66]) rfl (jl_aloadn gL121_0) ?_
                  refine jx_ar (pc' := 71) (st' := [.int (i32 (1)), .ref 66]) rfl rfl rfl rfl ?_
                  refine jx_ld (pc' := 72) (l' := L121) (st' := [.int (i32 (1)), .int (i32 (1)), .ref 66]) rfl (jl_iloadn gL121_1) ?_
                  refine jx_ar (pc' := 73) (st' := [.int (i32 (0)), .int (i32 (1)), .int (i32 (1)), .ref 66]) rfl rfl rfl rfl ?_
                  refine jx_ar (pc' := 74) (st' := [.int (i32 (0)), .int (i32 (0)), .int (i32 (1)), .int (i32 (1)), .ref 66]) rfl rfl rfl rfl ?_
                  refine jx_ar (pc' := 75) (st' := [.int (i32 (0)), .int (i32 (0)), .int (i32 (0)), .int (i32 (1)), .int (i32 (1)), .ref 66]) rfl rfl rfl rfl ?_
                  refine jx_vr (pc' := 78) (as := [.int (i32 (1)), .int (i32 (1)), .int (i32 (0)), .int (i32 (0)), .int (i32 (0))]) (st := []) rfl rfl rfl rfl ⟨rfl, rfl, Nat.le_of_ble_eq_true rfl⟩ rfl rfl (c_node (dd := d) (hd := by omega) (hW := hW126) (kind := 1) (a := 1) (b := 0) (c := 0) (e := 0) (nd := nd) (e_nd := show G122 31 = nd from ((hF127.1 31 rfl).trans (e_nd)))  (h_kind := ⟨(by decide), (by decide)⟩) (h_a := ⟨(by decide), (by decide)⟩) (h_b := ⟨(by decide), (by decide)⟩) (h_c := ⟨(by decide), (by decide)⟩) (h_e := ⟨(by decide), (by decide)⟩)  (p_0 := by omega) (p_1 := by omega)) (fun o V' hq => ?_)
                  obtain ⟨G136, A137, nd2_138, rfl, rfl, hW139, hF140, hQ141, e142, p143, -⟩ := hq
                  have hF145 := Fr_tr hF134 hF140 (Fr_sub (by decide)) (Fr_sub (by decide))
                  have hP146 := Pf_tr hP135 hQ141 (by omega)
                  have bnd2_138 : (0 : Int) ≤ nd2_138 ∧ nd2_138 ≤ 6999 := e142 ▸ hW139.1 31
                  refine .inr ⟨_, rfl, ?_⟩
                  refine jx_rt (v := some (.int (i32 (nd)))) rfl rfl rfl rfl rfl rfl ?_
                  have z147 := tz_f (tk2_125)
                  exact ⟨_, _, _, at2_124, fk, op0, nd2_138, tk2_125, rfl, rfl, hW139, hF145, hP146, by omega, ((hF140.1 10 rfl).trans (e128)), ((hF140.1 16 rfl).trans ((hF127.1 16 rfl).trans (e_fk))), ((hF140.1 15 rfl).trans ((hF127.1 15 rfl).trans (e_op0))), (e142), ((hF140.1 11 rfl).trans (e129)), by omega, by omega, by omega, by omega, by omega, by omega, by first | exact Or.inl (⟨by omega, by omega, by omega, by omega, by omega, by omega⟩) | exact Or.inr (Or.inl (⟨by omega, by omega, by omega⟩)) | exact Or.inr (Or.inr ((⟨by omega, by omega, by omega⟩)))⟩
              · have _q : True := trivial
                refine jx_if_eq (pc' := 59) (tg := 63) rfl rfl rfl (by decide) (by decide) (fun h148 => ?_) (fun h148 => ?_)
                · have _q := h148
                  refine jx_ar (pc' := 64) (st' := [.int (i32 (0))]) rfl rfl rfl rfl ?_
                  refine jx_ld (pc' := 65) (l' := jSto1 [(0, .ref 66)] 1 (.int (i32 (0)))) (st' := []) rfl rfl ?_
                  obtain ⟨L149, eL149⟩ : ∃ q, q = jSto1 [(0, .ref 66)] 1 (.int (i32 (0))) := ⟨_, rfl⟩
                  rw [← eL149]
                  have gL149_0 : jGet L149 0 = some (.ref 66) := eL149 ▸ jg_ne (by decide) (rfl : jGet [(0, .ref 66)] 0 = some (.ref 66)) rfl
                  have gL149_1 : jGet L149 1 = some (.int (i32 (0))) := eL149 ▸ jg_eq
                  refine jx_ld (pc' := 66) (l' := L149) (st' := [.ref 66]) rfl (jl_aloadn gL149_0) ?_
                  refine jx_vr (pc' := 69) (as := []) (st := []) rfl rfl rfl rfl ⟨rfl, rfl, Nat.le_of_ble_eq_true rfl⟩ rfl rfl (c_next (dd := d) (hd := by omega) (hW := hW)  (ln := ln) (e_ln := show G 9 = ln from (e_ln)) (le := le) (e_le := show A 4 (ln).toNat = le from (e_le)) (at0 := at0) (e_at0 := show G 10 = at0 from (e_at0))    (p_0 := by omega)) (fun o V' hq => ?_)
                  obtain ⟨G150, A151, at2_152, tk2_153, rfl, rfl, hW154, hF155, e156, e157, p158, p159, p160, -⟩ := hq
                  have hF162 := Fr_tr hF0 hF155 (Fr_sub (by decide)) (Fr_sub (by decide))
                  have hP163 := Pf_f hP0 hF155 (by decide)
                  have bat2_152 : (0 : Int) ≤ at2_152 ∧ at2_152 ≤ 3002 := e156 ▸ hW154.1 10
                  have ztk2_153 := tz_b tk2_153
                  have btk2_153 : (0 : Int) ≤ tk2_153 ∧ tk2_153 ≤ 5 := e157 ▸ hW154.1 11
                  refine .inl ⟨rfl, ?_⟩
                  refine jx_ld (pc' := 70) (l' := L149) (st' := [.ref 66]) rfl (jl_aloadn gL149_0) ?_
                  refine jx_ar (pc' := 71) (st' := [.int (i32 (1)), .ref 66]) rfl rfl rfl rfl ?_
                  refine jx_ld (pc' := 72) (l' := L149) (st' := [.int (i32 (0)), .int (i32 (1)), .ref 66]) rfl (jl_iloadn gL149_1) ?_
                  refine jx_ar (pc' := 73) (st' := [.int (i32 (0)), .int (i32 (0)), .int (i32 (1)), .ref 66]) rfl rfl rfl rfl ?_
                  refine jx_ar (pc' := 74) (st' := [.int (i32 (0)), .int (i32 (0)), .int (i32 (0)), .int (i32 (1)), .ref 66]) rfl rfl rfl rfl ?_
                  refine jx_ar (pc' := 75) (st' := [.int (i32 (0)), .int (i32 (0)), .int (i32 (0)), .int (i32 (0)), .int (i32 (1)), .ref 66]) rfl rfl rfl rfl ?_
                  refine jx_vr (pc' := 78) (as := [.int (i32 (1)), .int (i32 (0)), .int (i32 (0)), .int (i32 (0)), .int (i32 (0))]) (st := []) rfl rfl rfl rfl ⟨rfl, rfl, Nat.le_of_ble_eq_true rfl⟩ rfl rfl (c_node (dd := d) (hd := by omega) (hW := hW154) (kind := 1) (a := 0) (b := 0) (c := 0) (e := 0) (nd := nd) (e_nd := show G150 31 = nd from ((hF155.1 31 rfl).trans (e_nd)))  (h_kind := ⟨(by decide), (by decide)⟩) (h_a := ⟨(by decide), (by decide)⟩) (h_b := ⟨(by decide), (by decide)⟩) (h_c := ⟨(by decide), (by decide)⟩) (h_e := ⟨(by decide), (by decide)⟩)  (p_0 := by omega) (p_1 := by omega)) (fun o V' hq => ?_)
                  obtain ⟨G164, A165, nd2_166, rfl, rfl, hW167, hF168, hQ169, e170, p171, -⟩ := hq
                  have hF173 := Fr_tr hF162 hF168 (Fr_sub (by decide)) (Fr_sub (by decide))
                  have hP174 := Pf_tr hP163 hQ169 (by omega)
                  have bnd2_166 : (0 : Int) ≤ nd2_166 ∧ nd2_166 ≤ 6999 := e170 ▸ hW167.1 31
                  refine .inr ⟨_, rfl, ?_⟩
                  refine jx_rt (v := some (.int (i32 (nd)))) rfl rfl rfl rfl rfl rfl ?_
                  have z175 := tz_f (tk2_153)
                  exact ⟨_, _, _, at2_152, fk, op0, nd2_166, tk2_153, rfl, rfl, hW167, hF173, hP174, by omega, ((hF168.1 10 rfl).trans (e156)), ((hF168.1 16 rfl).trans ((hF155.1 16 rfl).trans (e_fk))), ((hF168.1 15 rfl).trans ((hF155.1 15 rfl).trans (e_op0))), (e170), ((hF168.1 11 rfl).trans (e157)), by omega, by omega, by omega, by omega, by omega, by omega, by first | exact Or.inl (⟨by omega, by omega, by omega, by omega, by omega, by omega⟩) | exact Or.inr (Or.inl (⟨by omega, by omega, by omega⟩)) | exact Or.inr (Or.inr ((⟨by omega, by omega, by omega⟩)))⟩
                · have _q := h148
                  exact absurd h148 (by omega)
            · have _q := h113
              refine jx_ld (pc' := 44) (l' := [(0, .ref 66)]) (st' := [.ref 66]) rfl (jl_aloadn rfl) ?_
              refine jr_get (pc' := 47) (i := 13) (v := .int (i32 (G 13))) rfl rfl (by decide) rfl rfl ?_
              refine jx_go (tg := 64) rfl rfl ?_
              refine jx_ld (pc' := 65) (l' := jSto1 [(0, .ref 66)] 1 (.int (i32 (G 13)))) (st' := []) rfl rfl ?_
              obtain ⟨L176, eL176⟩ : ∃ q, q = jSto1 [(0, .ref 66)] 1 (.int (i32 (G 13))) := ⟨_, rfl⟩
              rw [← eL176]
              have gL176_0 : jGet L176 0 = some (.ref 66) := eL176 ▸ jg_ne (by decide) (rfl : jGet [(0, .ref 66)] 0 = some (.ref 66)) rfl
              have gL176_1 : jGet L176 1 = some (.int (i32 (G 13))) := eL176 ▸ jg_eq
              refine jx_ld (pc' := 66) (l' := L176) (st' := [.ref 66]) rfl (jl_aloadn gL176_0) ?_
              refine jx_vr (pc' := 69) (as := []) (st := []) rfl rfl rfl rfl ⟨rfl, rfl, Nat.le_of_ble_eq_true rfl⟩ rfl rfl (c_next (dd := d) (hd := by omega) (hW := hW)  (ln := ln) (e_ln := show G 9 = ln from (e_ln)) (le := le) (e_le := show A 4 (ln).toNat = le from (e_le)) (at0 := at0) (e_at0 := show G 10 = at0 from (e_at0))    (p_0 := by omega)) (fun o V' hq => ?_)
              obtain ⟨G177, A178, at2_179, tk2_180, rfl, rfl, hW181, hF182, e183, e184, p185, p186, p187, -⟩ := hq
              have hF189 := Fr_tr hF0 hF182 (Fr_sub (by decide)) (Fr_sub (by decide))
              have hP190 := Pf_f hP0 hF182 (by decide)
              have bat2_179 : (0 : Int) ≤ at2_179 ∧ at2_179 ≤ 3002 := e183 ▸ hW181.1 10
              have ztk2_180 := tz_b tk2_180
              have btk2_180 : (0 : Int) ≤ tk2_180 ∧ tk2_180 ≤ 5 := e184 ▸ hW181.1 11
              refine .inl ⟨rfl, ?_⟩
              refine jx_ld (pc' := 70) (l' := L176) (st' := [.ref 66]) rfl (jl_aloadn gL176_0) ?_
              refine jx_ar (pc' := 71) (st' := [.int (i32 (1)), .ref 66]) rfl rfl rfl rfl ?_
              refine jx_ld (pc' := 72) (l' := L176) (st' := [.int (i32 (G 13)), .int (i32 (1)), .ref 66]) rfl (jl_iloadn gL176_1) ?_
              refine jx_ar (pc' := 73) (st' := [.int (i32 (0)), .int (i32 (G 13)), .int (i32 (1)), .ref 66]) rfl rfl rfl rfl ?_
              refine jx_ar (pc' := 74) (st' := [.int (i32 (0)), .int (i32 (0)), .int (i32 (G 13)), .int (i32 (1)), .ref 66]) rfl rfl rfl rfl ?_
              refine jx_ar (pc' := 75) (st' := [.int (i32 (0)), .int (i32 (0)), .int (i32 (0)), .int (i32 (G 13)), .int (i32 (1)), .ref 66]) rfl rfl rfl rfl ?_
              refine jx_vr (pc' := 78) (as := [.int (i32 (1)), .int (i32 (G 13)), .int (i32 (0)), .int (i32 (0)), .int (i32 (0))]) (st := []) rfl rfl rfl rfl ⟨rfl, rfl, Nat.le_of_ble_eq_true rfl⟩ rfl rfl (c_node (dd := d) (hd := by omega) (hW := hW181) (kind := 1) (a := G 13) (b := 0) (c := 0) (e := 0) (nd := nd) (e_nd := show G177 31 = nd from ((hF182.1 31 rfl).trans (e_nd)))  (h_kind := ⟨(by decide), (by decide)⟩) (h_a := ⟨(Int.le_trans (by decide : (-2147483648 : Int) ≤ -2147483648) b104.1), (Int.le_trans b104.2 (by decide : (2147483647 : Int) ≤ 2147483647))⟩) (h_b := ⟨(by decide), (by decide)⟩) (h_c := ⟨(by decide), (by decide)⟩) (h_e := ⟨(by decide), (by decide)⟩)  (p_0 := by omega) (p_1 := by omega)) (fun o V' hq => ?_)
              obtain ⟨G191, A192, nd2_193, rfl, rfl, hW194, hF195, hQ196, e197, p198, -⟩ := hq
              have hF200 := Fr_tr hF189 hF195 (Fr_sub (by decide)) (Fr_sub (by decide))
              have hP201 := Pf_tr hP190 hQ196 (by omega)
              have bnd2_193 : (0 : Int) ≤ nd2_193 ∧ nd2_193 ≤ 6999 := e197 ▸ hW194.1 31
              refine .inr ⟨_, rfl, ?_⟩
              refine jx_rt (v := some (.int (i32 (nd)))) rfl rfl rfl rfl rfl rfl ?_
              have z202 := tz_f (tk2_180)
              exact ⟨_, _, _, at2_179, fk, op0, nd2_193, tk2_180, rfl, rfl, hW194, hF200, hP201, by omega, ((hF195.1 10 rfl).trans (e183)), ((hF195.1 16 rfl).trans ((hF182.1 16 rfl).trans (e_fk))), ((hF195.1 15 rfl).trans ((hF182.1 15 rfl).trans (e_op0))), (e197), ((hF195.1 11 rfl).trans (e184)), by omega, by omega, by omega, by omega, by omega, by omega, by first | exact Or.inl (⟨by omega, by omega, by omega, by omega, by omega, by omega⟩) | exact Or.inr (Or.inl (⟨by omega, by omega, by omega⟩)) | exact Or.inr (Or.inr ((⟨by omega, by omega, by omega⟩)))⟩
          · have _q := h111
            exact absurd h111 (by omega)
        · have _q : True := trivial
          refine jx_if_ne (pc' := 26) (tg := 35) rfl rfl rfl (by decide) (by decide) (fun h203 => ?_) (fun h203 => ?_)
          · have _q := h203
            exact absurd h203 (by omega)
          · have _q := h203
            refine jx_ld (pc' := 27) (l' := [(0, .ref 66)]) (st' := [.ref 66]) rfl (jl_aloadn rfl) ?_
            refine jx_ar (pc' := 29) (st' := [.int (i32 (15)), .ref 66]) rfl rfl rfl rfl ?_
            refine jx_vr (pc' := 32) (as := [.int (i32 (15))]) (st := []) rfl rfl rfl rfl ⟨rfl, rfl, Nat.le_of_ble_eq_true rfl⟩ rfl rfl (c_isKey (dd := d) (hd := by omega) (hW := hW) (k := 15) (tk := tk0) (e_tk := show G 11 = tk0 from (e_tk0)) (tn := G 13) (e_tn := show G 13 = G 13 from rfl)  (h_k := ⟨(by decide), (by decide)⟩)  ) (fun o V' hq => ?_)
            obtain ⟨r204, rfl, rfl, b205, q206⟩ := hq
            refine .inr ⟨_, rfl, ?_⟩
            rcases q206 with ⟨rfl, a207, a208, a209⟩ | rfl
            · have _q : True := trivial
              refine jx_if_eq (pc' := 35) (tg := 79) rfl rfl rfl (by decide) (by decide) (fun h210 => ?_) (fun h210 => ?_)
              · have _q := h210
                exact absurd h210 (by omega)
              · have _q := h210
                refine jx_ld (pc' := 36) (l' := [(0, .ref 66)]) (st' := [.ref 66]) rfl (jl_aloadn rfl) ?_
                have z211 := tz_f (tk0)
                refine jr_get (pc' := 39) (i := 11) (v := .int (i32 (tk0))) rfl rfl (by decide) (rFv_eq (by decide) (show G 11 = tk0 from (e_tk0))) rfl ?_
                refine jx_ar (pc' := 40) (st' := [.int (i32 (3)), .int (i32 (tk0))]) rfl rfl rfl rfl ?_
                refine jx_icmp_ne (pc' := 43) (tg := 50) rfl rfl rfl (Int.le_trans (by decide : (-2147483648 : Int) ≤ 0) b_tk0.1) (Int.le_trans b_tk0.2 (by decide : (5 : Int) ≤ 2147483647)) (by decide) (by decide) (fun h212 => ?_) (fun h212 => ?_)
                · have _q := h212
                  refine jx_ld (pc' := 51) (l' := [(0, .ref 66)]) (st' := [.ref 66]) rfl (jl_aloadn rfl) ?_
                  refine jx_ar (pc' := 53) (st' := [.int (i32 (14)), .ref 66]) rfl rfl rfl rfl ?_
                  refine jx_vr (pc' := 56) (as := [.int (i32 (14))]) (st := []) rfl rfl rfl rfl ⟨rfl, rfl, Nat.le_of_ble_eq_true rfl⟩ rfl rfl (c_isKey (dd := d) (hd := by omega) (hW := hW) (k := 14) (tk := tk0) (e_tk := show G 11 = tk0 from (e_tk0)) (tn := G 13) (e_tn := show G 13 = G 13 from rfl)  (h_k := ⟨(by decide), (by decide)⟩)  ) (fun o V' hq => ?_)
                  obtain ⟨r213, rfl, rfl, b214, q215⟩ := hq
                  refine .inr ⟨_, rfl, ?_⟩
                  rcases q215 with ⟨rfl, a216, a217, a218⟩ | rfl
                  · have _q : True := trivial
                    refine jx_if_eq (pc' := 59) (tg := 63) rfl rfl rfl (by decide) (by decide) (fun h219 => ?_) (fun h219 => ?_)
                    · have _q := h219
                      exact absurd h219 (by omega)
                    · have _q := h219
                      refine jx_ar (pc' := 60) (st' := [.int (i32 (1))]) rfl rfl rfl rfl ?_
                      refine jx_go (tg := 64) rfl rfl ?_
                      refine jx_ld (pc' := 65) (l' := jSto1 [(0, .ref 66)] 1 (.int (i32 (1)))) (st' := []) rfl rfl ?_
                      obtain ⟨L220, eL220⟩ : ∃ q, q = jSto1 [(0, .ref 66)] 1 (.int (i32 (1))) := ⟨_, rfl⟩
                      rw [← eL220]
                      have gL220_0 : jGet L220 0 = some (.ref 66) := eL220 ▸ jg_ne (by decide) (rfl : jGet [(0, .ref 66)] 0 = some (.ref 66)) rfl
                      have gL220_1 : jGet L220 1 = some (.int (i32 (1))) := eL220 ▸ jg_eq
                      refine jx_ld (pc' := 66) (l' := L220) (st' := [.ref 66]) rfl (jl_aloadn gL220_0) ?_
                      refine jx_vr (pc' := 69) (as := []) (st := []) rfl rfl rfl rfl ⟨rfl, rfl, Nat.le_of_ble_eq_true rfl⟩ rfl rfl (c_next (dd := d) (hd := by omega) (hW := hW)  (ln := ln) (e_ln := show G 9 = ln from (e_ln)) (le := le) (e_le := show A 4 (ln).toNat = le from (e_le)) (at0 := at0) (e_at0 := show G 10 = at0 from (e_at0))    (p_0 := by omega)) (fun o V' hq => ?_)
                      obtain ⟨G221, A222, at2_223, tk2_224, rfl, rfl, hW225, hF226, e227, e228, p229, p230, p231, -⟩ := hq
                      have hF233 := Fr_tr hF0 hF226 (Fr_sub (by decide)) (Fr_sub (by decide))
                      have hP234 := Pf_f hP0 hF226 (by decide)
                      have bat2_223 : (0 : Int) ≤ at2_223 ∧ at2_223 ≤ 3002 := e227 ▸ hW225.1 10
                      have ztk2_224 := tz_b tk2_224
                      have btk2_224 : (0 : Int) ≤ tk2_224 ∧ tk2_224 ≤ 5 := e228 ▸ hW225.1 11
                      refine .inl ⟨rfl, ?_⟩
                      refine jx_ld (pc' := 70) (l' := L220) (st' := [.ref 66]) rfl (jl_aloadn gL220_0) ?_
                      refine jx_ar (pc' := 71) (st' := [.int (i32 (1)), .ref 66]) rfl rfl rfl rfl ?_
                      refine jx_ld (pc' := 72) (l' := L220) (st' := [.int (i32 (1)), .int (i32 (1)), .ref 66]) rfl (jl_iloadn gL220_1) ?_
                      refine jx_ar (pc' := 73) (st' := [.int (i32 (0)), .int (i32 (1)), .int (i32 (1)), .ref 66]) rfl rfl rfl rfl ?_
                      refine jx_ar (pc' := 74) (st' := [.int (i32 (0)), .int (i32 (0)), .int (i32 (1)), .int (i32 (1)), .ref 66]) rfl rfl rfl rfl ?_
                      refine jx_ar (pc' := 75) (st' := [.int (i32 (0)), .int (i32 (0)), .int (i32 (0)), .int (i32 (1)), .int (i32 (1)), .ref 66]) rfl rfl rfl rfl ?_
                      refine jx_vr (pc' := 78) (as := [.int (i32 (1)), .int (i32 (1)), .int (i32 (0)), .int (i32 (0)), .int (i32 (0))]) (st := []) rfl rfl rfl rfl ⟨rfl, rfl, Nat.le_of_ble_eq_true rfl⟩ rfl rfl (c_node (dd := d) (hd := by omega) (hW := hW225) (kind := 1) (a := 1) (b := 0) (c := 0) (e := 0) (nd := nd) (e_nd := show G221 31 = nd from ((hF226.1 31 rfl).trans (e_nd)))  (h_kind := ⟨(by decide), (by decide)⟩) (h_a := ⟨(by decide), (by decide)⟩) (h_b := ⟨(by decide), (by decide)⟩) (h_c := ⟨(by decide), (by decide)⟩) (h_e := ⟨(by decide), (by decide)⟩)  (p_0 := by omega) (p_1 := by omega)) (fun o V' hq => ?_)
                      obtain ⟨G235, A236, nd2_237, rfl, rfl, hW238, hF239, hQ240, e241, p242, -⟩ := hq
                      have hF244 := Fr_tr hF233 hF239 (Fr_sub (by decide)) (Fr_sub (by decide))
                      have hP245 := Pf_tr hP234 hQ240 (by omega)
                      have bnd2_237 : (0 : Int) ≤ nd2_237 ∧ nd2_237 ≤ 6999 := e241 ▸ hW238.1 31
                      refine .inr ⟨_, rfl, ?_⟩
                      refine jx_rt (v := some (.int (i32 (nd)))) rfl rfl rfl rfl rfl rfl ?_
                      have z246 := tz_f (tk2_224)
                      exact ⟨_, _, _, at2_223, fk, op0, nd2_237, tk2_224, rfl, rfl, hW238, hF244, hP245, by omega, ((hF239.1 10 rfl).trans (e227)), ((hF239.1 16 rfl).trans ((hF226.1 16 rfl).trans (e_fk))), ((hF239.1 15 rfl).trans ((hF226.1 15 rfl).trans (e_op0))), (e241), ((hF239.1 11 rfl).trans (e228)), by omega, by omega, by omega, by omega, by omega, by omega, by first | exact Or.inl (⟨by omega, by omega, by omega, by omega, by omega, by omega⟩) | exact Or.inr (Or.inl (⟨by omega, by omega, by omega⟩)) | exact Or.inr (Or.inr ((⟨by omega, by omega, by omega⟩)))⟩
                  · have _q : True := trivial
                    refine jx_if_eq (pc' := 59) (tg := 63) rfl rfl rfl (by decide) (by decide) (fun h247 => ?_) (fun h247 => ?_)
                    · have _q := h247
                      refine jx_ar (pc' := 64) (st' := [.int (i32 (0))]) rfl rfl rfl rfl ?_
                      refine jx_ld (pc' := 65) (l' := jSto1 [(0, .ref 66)] 1 (.int (i32 (0)))) (st' := []) rfl rfl ?_
                      obtain ⟨L248, eL248⟩ : ∃ q, q = jSto1 [(0, .ref 66)] 1 (.int (i32 (0))) := ⟨_, rfl⟩
                      rw [← eL248]
                      have gL248_0 : jGet L248 0 = some (.ref 66) := eL248 ▸ jg_ne (by decide) (rfl : jGet [(0, .ref 66)] 0 = some (.ref 66)) rfl
                      have gL248_1 : jGet L248 1 = some (.int (i32 (0))) := eL248 ▸ jg_eq
                      refine jx_ld (pc' := 66) (l' := L248) (st' := [.ref 66]) rfl (jl_aloadn gL248_0) ?_
                      refine jx_vr (pc' := 69) (as := []) (st := []) rfl rfl rfl rfl ⟨rfl, rfl, Nat.le_of_ble_eq_true rfl⟩ rfl rfl (c_next (dd := d) (hd := by omega) (hW := hW)  (ln := ln) (e_ln := show G 9 = ln from (e_ln)) (le := le) (e_le := show A 4 (ln).toNat = le from (e_le)) (at0 := at0) (e_at0 := show G 10 = at0 from (e_at0))    (p_0 := by omega)) (fun o V' hq => ?_)
                      obtain ⟨G249, A250, at2_251, tk2_252, rfl, rfl, hW253, hF254, e255, e256, p257, p258, p259, -⟩ := hq
                      have hF261 := Fr_tr hF0 hF254 (Fr_sub (by decide)) (Fr_sub (by decide))
                      have hP262 := Pf_f hP0 hF254 (by decide)
                      have bat2_251 : (0 : Int) ≤ at2_251 ∧ at2_251 ≤ 3002 := e255 ▸ hW253.1 10
                      have ztk2_252 := tz_b tk2_252
                      have btk2_252 : (0 : Int) ≤ tk2_252 ∧ tk2_252 ≤ 5 := e256 ▸ hW253.1 11
                      refine .inl ⟨rfl, ?_⟩
                      refine jx_ld (pc' := 70) (l' := L248) (st' := [.ref 66]) rfl (jl_aloadn gL248_0) ?_
                      refine jx_ar (pc' := 71) (st' := [.int (i32 (1)), .ref 66]) rfl rfl rfl rfl ?_
                      refine jx_ld (pc' := 72) (l' := L248) (st' := [.int (i32 (0)), .int (i32 (1)), .ref 66]) rfl (jl_iloadn gL248_1) ?_
                      refine jx_ar (pc' := 73) (st' := [.int (i32 (0)), .int (i32 (0)), .int (i32 (1)), .ref 66]) rfl rfl rfl rfl ?_
                      refine jx_ar (pc' := 74) (st' := [.int (i32 (0)), .int (i32 (0)), .int (i32 (0)), .int (i32 (1)), .ref 66]) rfl rfl rfl rfl ?_
                      refine jx_ar (pc' := 75) (st' := [.int (i32 (0)), .int (i32 (0)), .int (i32 (0)), .int (i32 (0)), .int (i32 (1)), .ref 66]) rfl rfl rfl rfl ?_
                      refine jx_vr (pc' := 78) (as := [.int (i32 (1)), .int (i32 (0)), .int (i32 (0)), .int (i32 (0)), .int (i32 (0))]) (st := []) rfl rfl rfl rfl ⟨rfl, rfl, Nat.le_of_ble_eq_true rfl⟩ rfl rfl (c_node (dd := d) (hd := by omega) (hW := hW253) (kind := 1) (a := 0) (b := 0) (c := 0) (e := 0) (nd := nd) (e_nd := show G249 31 = nd from ((hF254.1 31 rfl).trans (e_nd)))  (h_kind := ⟨(by decide), (by decide)⟩) (h_a := ⟨(by decide), (by decide)⟩) (h_b := ⟨(by decide), (by decide)⟩) (h_c := ⟨(by decide), (by decide)⟩) (h_e := ⟨(by decide), (by decide)⟩)  (p_0 := by omega) (p_1 := by omega)) (fun o V' hq => ?_)
                      obtain ⟨G263, A264, nd2_265, rfl, rfl, hW266, hF267, hQ268, e269, p270, -⟩ := hq
                      have hF272 := Fr_tr hF261 hF267 (Fr_sub (by decide)) (Fr_sub (by decide))
                      have hP273 := Pf_tr hP262 hQ268 (by omega)
                      have bnd2_265 : (0 : Int) ≤ nd2_265 ∧ nd2_265 ≤ 6999 := e269 ▸ hW266.1 31
                      refine .inr ⟨_, rfl, ?_⟩
                      refine jx_rt (v := some (.int (i32 (nd)))) rfl rfl rfl rfl rfl rfl ?_
                      have z274 := tz_f (tk2_252)
                      exact ⟨_, _, _, at2_251, fk, op0, nd2_265, tk2_252, rfl, rfl, hW266, hF272, hP273, by omega, ((hF267.1 10 rfl).trans (e255)), ((hF267.1 16 rfl).trans ((hF254.1 16 rfl).trans (e_fk))), ((hF267.1 15 rfl).trans ((hF254.1 15 rfl).trans (e_op0))), (e269), ((hF267.1 11 rfl).trans (e256)), by omega, by omega, by omega, by omega, by omega, by omega, by first | exact Or.inl (⟨by omega, by omega, by omega, by omega, by omega, by omega⟩) | exact Or.inr (Or.inl (⟨by omega, by omega, by omega⟩)) | exact Or.inr (Or.inr ((⟨by omega, by omega, by omega⟩)))⟩
                    · have _q := h247
                      exact absurd h247 (by omega)
                · have _q := h212
                  refine jx_ld (pc' := 44) (l' := [(0, .ref 66)]) (st' := [.ref 66]) rfl (jl_aloadn rfl) ?_
                  refine jr_get (pc' := 47) (i := 13) (v := .int (i32 (G 13))) rfl rfl (by decide) rfl rfl ?_
                  refine jx_go (tg := 64) rfl rfl ?_
                  refine jx_ld (pc' := 65) (l' := jSto1 [(0, .ref 66)] 1 (.int (i32 (G 13)))) (st' := []) rfl rfl ?_
                  obtain ⟨L275, eL275⟩ : ∃ q, q = jSto1 [(0, .ref 66)] 1 (.int (i32 (G 13))) := ⟨_, rfl⟩
                  rw [← eL275]
                  have gL275_0 : jGet L275 0 = some (.ref 66) := eL275 ▸ jg_ne (by decide) (rfl : jGet [(0, .ref 66)] 0 = some (.ref 66)) rfl
                  have gL275_1 : jGet L275 1 = some (.int (i32 (G 13))) := eL275 ▸ jg_eq
                  refine jx_ld (pc' := 66) (l' := L275) (st' := [.ref 66]) rfl (jl_aloadn gL275_0) ?_
                  refine jx_vr (pc' := 69) (as := []) (st := []) rfl rfl rfl rfl ⟨rfl, rfl, Nat.le_of_ble_eq_true rfl⟩ rfl rfl (c_next (dd := d) (hd := by omega) (hW := hW)  (ln := ln) (e_ln := show G 9 = ln from (e_ln)) (le := le) (e_le := show A 4 (ln).toNat = le from (e_le)) (at0 := at0) (e_at0 := show G 10 = at0 from (e_at0))    (p_0 := by omega)) (fun o V' hq => ?_)
                  obtain ⟨G276, A277, at2_278, tk2_279, rfl, rfl, hW280, hF281, e282, e283, p284, p285, p286, -⟩ := hq
                  have hF288 := Fr_tr hF0 hF281 (Fr_sub (by decide)) (Fr_sub (by decide))
                  have hP289 := Pf_f hP0 hF281 (by decide)
                  have bat2_278 : (0 : Int) ≤ at2_278 ∧ at2_278 ≤ 3002 := e282 ▸ hW280.1 10
                  have ztk2_279 := tz_b tk2_279
                  have btk2_279 : (0 : Int) ≤ tk2_279 ∧ tk2_279 ≤ 5 := e283 ▸ hW280.1 11
                  refine .inl ⟨rfl, ?_⟩
                  refine jx_ld (pc' := 70) (l' := L275) (st' := [.ref 66]) rfl (jl_aloadn gL275_0) ?_
                  refine jx_ar (pc' := 71) (st' := [.int (i32 (1)), .ref 66]) rfl rfl rfl rfl ?_
                  refine jx_ld (pc' := 72) (l' := L275) (st' := [.int (i32 (G 13)), .int (i32 (1)), .ref 66]) rfl (jl_iloadn gL275_1) ?_
                  refine jx_ar (pc' := 73) (st' := [.int (i32 (0)), .int (i32 (G 13)), .int (i32 (1)), .ref 66]) rfl rfl rfl rfl ?_
                  refine jx_ar (pc' := 74) (st' := [.int (i32 (0)), .int (i32 (0)), .int (i32 (G 13)), .int (i32 (1)), .ref 66]) rfl rfl rfl rfl ?_
                  refine jx_ar (pc' := 75) (st' := [.int (i32 (0)), .int (i32 (0)), .int (i32 (0)), .int (i32 (G 13)), .int (i32 (1)), .ref 66]) rfl rfl rfl rfl ?_
                  refine jx_vr (pc' := 78) (as := [.int (i32 (1)), .int (i32 (G 13)), .int (i32 (0)), .int (i32 (0)), .int (i32 (0))]) (st := []) rfl rfl rfl rfl ⟨rfl, rfl, Nat.le_of_ble_eq_true rfl⟩ rfl rfl (c_node (dd := d) (hd := by omega) (hW := hW280) (kind := 1) (a := G 13) (b := 0) (c := 0) (e := 0) (nd := nd) (e_nd := show G276 31 = nd from ((hF281.1 31 rfl).trans (e_nd)))  (h_kind := ⟨(by decide), (by decide)⟩) (h_a := ⟨(Int.le_trans (by decide : (-2147483648 : Int) ≤ -2147483648) b104.1), (Int.le_trans b104.2 (by decide : (2147483647 : Int) ≤ 2147483647))⟩) (h_b := ⟨(by decide), (by decide)⟩) (h_c := ⟨(by decide), (by decide)⟩) (h_e := ⟨(by decide), (by decide)⟩)  (p_0 := by omega) (p_1 := by omega)) (fun o V' hq => ?_)
                  obtain ⟨G290, A291, nd2_292, rfl, rfl, hW293, hF294, hQ295, e296, p297, -⟩ := hq
                  have hF299 := Fr_tr hF288 hF294 (Fr_sub (by decide)) (Fr_sub (by decide))
                  have hP300 := Pf_tr hP289 hQ295 (by omega)
                  have bnd2_292 : (0 : Int) ≤ nd2_292 ∧ nd2_292 ≤ 6999 := e296 ▸ hW293.1 31
                  refine .inr ⟨_, rfl, ?_⟩
                  refine jx_rt (v := some (.int (i32 (nd)))) rfl rfl rfl rfl rfl rfl ?_
                  have z301 := tz_f (tk2_279)
                  exact ⟨_, _, _, at2_278, fk, op0, nd2_292, tk2_279, rfl, rfl, hW293, hF299, hP300, by omega, ((hF294.1 10 rfl).trans (e282)), ((hF294.1 16 rfl).trans ((hF281.1 16 rfl).trans (e_fk))), ((hF294.1 15 rfl).trans ((hF281.1 15 rfl).trans (e_op0))), (e296), ((hF294.1 11 rfl).trans (e283)), by omega, by omega, by omega, by omega, by omega, by omega, by first | exact Or.inl (⟨by omega, by omega, by omega, by omega, by omega, by omega⟩) | exact Or.inr (Or.inl (⟨by omega, by omega, by omega⟩)) | exact Or.inr (Or.inr ((⟨by omega, by omega, by omega⟩)))⟩
            · have _q : True := trivial
              refine jx_if_eq (pc' := 35) (tg := 79) rfl rfl rfl (by decide) (by decide) (fun h302 => ?_) (fun h302 => ?_)
              · have _q := h302
                refine jx_ld (pc' := 80) (l' := [(0, .ref 66)]) (st' := [.ref 66]) rfl (jl_aloadn rfl) ?_
                refine jx_ar (pc' := 82) (st' := [.int (i32 (40)), .ref 66]) rfl rfl rfl rfl ?_
                refine jx_vr (pc' := 85) (as := [.int (i32 (40))]) (st := []) rfl rfl rfl rfl ⟨rfl, rfl, Nat.le_of_ble_eq_true rfl⟩ rfl rfl (c_is (dd := d) (hd := by omega) (hW := hW) (k := 40) (tk := tk0) (e_tk := show G 11 = tk0 from (e_tk0)) (tn := G 13) (e_tn := show G 13 = G 13 from rfl)  (h_k := ⟨(by decide), (by decide)⟩)  ) (fun o V' hq => ?_)
                obtain ⟨r303, rfl, rfl, b304, q305⟩ := hq
                refine .inr ⟨_, rfl, ?_⟩
                rcases q305 with ⟨rfl, a306, a307, a308⟩ | rfl
                · have _q : True := trivial
                  refine jx_if_eq (pc' := 88) (tg := 133) rfl rfl rfl (by decide) (by decide) (fun h309 => ?_) (fun h309 => ?_)
                  · have _q := h309
                    exact absurd h309 (by omega)
                  · have _q := h309
                    refine jx_ld (pc' := 89) (l' := [(0, .ref 66)]) (st' := [.ref 66]) rfl (jl_aloadn rfl) ?_
                    refine jx_vr (pc' := 92) (as := []) (st := []) rfl rfl rfl rfl ⟨rfl, rfl, Nat.le_of_ble_eq_true rfl⟩ rfl rfl (c_open (dd := d) (hd := by omega) (hW := hW)  (fk := fk) (e_fk := show G 16 = fk from (e_fk)) (op0 := op0) (e_op0 := show G 15 = op0 from (e_op0))    (p_0 := by omega)) (fun o V' hq => ?_)
                    obtain ⟨G310, A311, fk2_312, op2_313, rfl, rfl, hW314, hF315, e316, e317, p318, q319⟩ := hq
                    have hF320 := Fr_tr hF0 hF315 (Fr_sub (by decide)) (Fr_sub (by decide))
                    have hP321 := Pf_f hP0 hF315 (by decide)
                    have bfk2_312 : (0 : Int) ≤ fk2_312 ∧ fk2_312 ≤ 6 := e316 ▸ hW314.1 16
                    have bop2_313 : (-2147483648 : Int) ≤ op2_313 ∧ op2_313 ≤ 2147483647 := e317 ▸ hW314.1 15
                    refine .inl ⟨rfl, ?_⟩
                    rcases q319 with a322 | ⟨a323, a324, a325⟩
                    · have _q : True := trivial
                      refine jx_ld (pc' := 93) (l' := [(0, .ref 66)]) (st' := [.ref 66]) rfl (jl_aloadn rfl) ?_
                      refine jx_ar (pc' := 94) (st' := [.int (i32 (1)), .ref 66]) rfl rfl rfl rfl ?_
                      refine jx_vr (pc' := 97) (as := [.int (i32 (1))]) (st := []) rfl rfl rfl rfl ⟨rfl, rfl, Nat.le_of_ble_eq_true rfl⟩ rfl rfl (c_need (dd := d) (hd := by omega) (hW := hW314) (g := 1) (ln := ln) (e_ln := show G310 9 = ln from ((hF315.1 9 rfl).trans (e_ln))) (le := le) (e_le := show A311 4 (ln).toNat = le from (congrFun (hF315.2 4 rfl) _).trans (e_le)) (at0 := at0) (e_at0 := show G310 10 = at0 from ((hF315.1 10 rfl).trans (e_at0))) (fk := fk2_312) (e_fk := show G310 16 = fk2_312 from (e316)) (tk0 := tk0) (e_tk0 := show G310 11 = tk0 from ((hF315.1 11 rfl).trans (e_tk0)))  (h_g := ⟨(by decide), (by decide)⟩)  (p_0 := by omega)) (fun o V' hq => ?_)
                      obtain ⟨G326, A327, at2_328, tk2_329, fk2_330, rfl, rfl, hW331, hF332, e333, e334, e335, p336, p337, q338⟩ := hq
                      have hF339 := Fr_tr hF320 hF332 (Fr_sub (by decide)) (Fr_sub (by decide))
                      have hP340 := Pf_f hP321 hF332 (by decide)
                      have bat2_328 : (0 : Int) ≤ at2_328 ∧ at2_328 ≤ 3002 := e333 ▸ hW331.1 10
                      have ztk2_329 := tz_b tk2_329
                      have btk2_329 : (0 : Int) ≤ tk2_329 ∧ tk2_329 ≤ 5 := e334 ▸ hW331.1 11
                      have bfk2_330 : (0 : Int) ≤ fk2_330 ∧ fk2_330 ≤ 6 := e335 ▸ hW331.1 16
                      refine .inl ⟨rfl, ?_⟩
                      rcases q338 with ⟨a341, a342, a343, a344⟩ | ⟨a345, a346, a347, a348⟩
                      · have _q : True := trivial
                        refine jx_ld (pc' := 98) (l' := [(0, .ref 66)]) (st' := [.ref 66]) rfl (jl_aloadn rfl) ?_
                        refine jx_vr (pc' := 101) (as := []) (st := []) rfl rfl rfl rfl ⟨rfl, rfl, Nat.le_of_ble_eq_true rfl⟩ rfl rfl (hE (dd := d) (hd := by omega) (hW := hW331)  (ln := ln) (e_ln := show G326 9 = ln from ((hF332.1 9 rfl).trans ((hF315.1 9 rfl).trans (e_ln)))) (le := le) (e_le := show A327 4 (ln).toNat = le from (congrFun ((hF332.2 4 rfl).trans (hF315.2 4 rfl)) _).trans (e_le)) (at0 := at2_328) (e_at0 := show G326 10 = at2_328 from (e333)) (fk := fk2_330) (e_fk := show G326 16 = fk2_330 from (e335)) (op0 := op2_313) (e_op0 := show G326 15 = op2_313 from ((hF332.1 15 rfl).trans (e317))) (nd := nd) (e_nd := show G326 31 = nd from ((hF332.1 31 rfl).trans ((hF315.1 31 rfl).trans (e_nd)))) (tk0 := tk2_329) (e_tk0 := show G326 11 = tk2_329 from (e334))    (p_0 := by omega) (p_1 := by omega) (p_2 := by omega) (p_3 := by omega) (p_4 := by omega) (p_5 := by omega)) (fun o V' hq => ?_)
                        obtain ⟨G349, A350, r351, at2_352, fk2_353, op2_354, nd2_355, tk2_356, rfl, rfl, hW357, hF358, hQ359, b360, e361, e362, e363, e364, e365, p366, p367, p368, p369, p370, p371, q372⟩ := hq
                        have hF373 := Fr_tr hF339 hF358 (Fr_sub (by decide)) (Fr_sub (by decide))
                        have hP374 := Pf_tr hP340 hQ359 (by omega)
                        have bat2_352 : (0 : Int) ≤ at2_352 ∧ at2_352 ≤ 3002 := e361 ▸ hW357.1 10
                        have bfk2_353 : (0 : Int) ≤ fk2_353 ∧ fk2_353 ≤ 6 := e362 ▸ hW357.1 16
                        have bop2_354 : (-2147483648 : Int) ≤ op2_354 ∧ op2_354 ≤ 2147483647 := e363 ▸ hW357.1 15
                        have bnd2_355 : (0 : Int) ≤ nd2_355 ∧ nd2_355 ≤ 6999 := e364 ▸ hW357.1 31
                        have ztk2_356 := tz_b tk2_356
                        have btk2_356 : (0 : Int) ≤ tk2_356 ∧ tk2_356 ≤ 5 := e365 ▸ hW357.1 11
                        refine .inr ⟨_, rfl, ?_⟩
                        rcases q372 with ⟨a375, a376, a377, a378, a379, a380⟩ | ⟨a381, a382, a383⟩ | ⟨a384, a385, a386⟩
                        · have _q : True := trivial
                          refine jx_ld (pc' := 102) (l' := jSto1 [(0, .ref 66)] 1 (.int (i32 (r351)))) (st' := []) rfl rfl ?_
                          obtain ⟨L387, eL387⟩ : ∃ q, q = jSto1 [(0, .ref 66)] 1 (.int (i32 (r351))) := ⟨_, rfl⟩
                          rw [← eL387]
                          have gL387_0 : jGet L387 0 = some (.ref 66) := eL387 ▸ jg_ne (by decide) (rfl : jGet [(0, .ref 66)] 0 = some (.ref 66)) rfl
                          have gL387_1 : jGet L387 1 = some (.int (i32 (r351))) := eL387 ▸ jg_eq
                          refine jx_ld (pc' := 103) (l' := L387) (st' := [.ref 66]) rfl (jl_aloadn gL387_0) ?_
                          refine jx_ld (pc' := 104) (l' := L387) (st' := [.ref 66, .ref 66]) rfl (jl_aloadn gL387_0) ?_
                          refine jx_ar (pc' := 106) (st' := [.int (i32 (41)), .ref 66, .ref 66]) rfl rfl rfl rfl ?_
                          have b388 : (-2147483648 : Int) ≤ G349 13 ∧ G349 13 ≤ 2147483647 := hW357.1 13
                          refine jx_vr (pc' := 109) (as := [.int (i32 (41))]) (st := [.ref 66]) rfl rfl rfl rfl ⟨rfl, rfl, Nat.le_of_ble_eq_true rfl⟩ rfl rfl (c_is (dd := d) (hd := by omega) (hW := hW357) (k := 41) (tk := tk2_356) (e_tk := show G349 11 = tk2_356 from (e365)) (tn := G349 13) (e_tn := show G349 13 = G349 13 from rfl)  (h_k := ⟨(by decide), (by decide)⟩)  ) (fun o V' hq => ?_)
                          obtain ⟨r389, rfl, rfl, b390, q391⟩ := hq
                          refine .inr ⟨_, rfl, ?_⟩
                          rcases q391 with ⟨rfl, a392, a393, a394⟩ | rfl
                          · have _q : True := trivial
                            refine jx_vr (pc' := 112) (as := [.int (i32 (1))]) (st := []) rfl rfl rfl rfl ⟨rfl, rfl, Nat.le_of_ble_eq_true rfl⟩ rfl rfl (c_need (dd := d) (hd := by omega) (hW := hW357) (g := 1) (ln := ln) (e_ln := show G349 9 = ln from ((hF358.1 9 rfl).trans ((hF332.1 9 rfl).trans ((hF315.1 9 rfl).trans (e_ln))))) (le := le) (e_le := show A350 4 (ln).toNat = le from (congrFun ((hF358.2 4 rfl).trans ((hF332.2 4 rfl).trans (hF315.2 4 rfl))) _).trans (e_le)) (at0 := at2_352) (e_at0 := show G349 10 = at2_352 from (e361)) (fk := fk2_353) (e_fk := show G349 16 = fk2_353 from (e362)) (tk0 := tk2_356) (e_tk0 := show G349 11 = tk2_356 from (e365))  (h_g := ⟨(by decide), (by decide)⟩)  (p_0 := by omega)) (fun o V' hq => ?_)
                            obtain ⟨G395, A396, at2_397, tk2_398, fk2_399, rfl, rfl, hW400, hF401, e402, e403, e404, p405, p406, q407⟩ := hq
                            have hF408 := Fr_tr hF373 hF401 (Fr_sub (by decide)) (Fr_sub (by decide))
                            have hP409 := Pf_f hP374 hF401 (by decide)
                            have bat2_397 : (0 : Int) ≤ at2_397 ∧ at2_397 ≤ 3002 := e402 ▸ hW400.1 10
                            have ztk2_398 := tz_b tk2_398
                            have btk2_398 : (0 : Int) ≤ tk2_398 ∧ tk2_398 ≤ 5 := e403 ▸ hW400.1 11
                            have bfk2_399 : (0 : Int) ≤ fk2_399 ∧ fk2_399 ≤ 6 := e404 ▸ hW400.1 16
                            refine .inl ⟨rfl, ?_⟩
                            rcases q407 with ⟨a410, a411, a412, a413⟩ | ⟨a414, a415, a416, a417⟩
                            · have _q : True := trivial
                              refine jx_ld (pc' := 113) (l' := L387) (st' := [.ref 66]) rfl (jl_aloadn gL387_0) ?_
                              refine jx_ar (pc' := 114) (st' := [.ref 66, .ref 66]) rfl rfl rfl rfl ?_
                              refine jr_get (pc' := 117) (i := 15) (v := .int (i32 (op2_354))) rfl rfl (by decide) (rFv_eq (by decide) (show G395 15 = op2_354 from ((hF401.1 15 rfl).trans (e363)))) rfl ?_
                              refine jx_ar (pc' := 118) (st' := [.int (i32 (1)), .int (i32 (op2_354)), .ref 66]) rfl rfl rfl rfl ?_
                              refine jx_sub (pc' := 119) rfl rfl ?_
                              refine jr_put (pc' := 122) (i := 15) (z := (op2_354 - 1)) rfl rfl (by decide) rfl rfl rfl rfl rfl rfl ?_
                              have hW418 : Wk (uG G395 15 ((op2_354 - 1))) A396 := Wk_g hW400 (show (-2147483648 : Int) ≤ (op2_354 - 1) by omega) (show (op2_354 - 1) ≤ (2147483647 : Int) by omega)
                              have hF419 := Fr_g (z := (op2_354 - 1)) (i := 15) hF408 (by decide)
                              refine jx_ld (pc' := 123) (l' := L387) (st' := [.ref 66]) rfl (jl_aloadn gL387_0) ?_
                              refine jx_ar (pc' := 125) (st' := [.int (i32 (7)), .ref 66]) rfl rfl rfl rfl ?_
                              refine jx_ld (pc' := 126) (l' := L387) (st' := [.int (i32 (r351)), .int (i32 (7)), .ref 66]) rfl (jl_iloadn gL387_1) ?_
                              refine jx_ar (pc' := 127) (st' := [.int (i32 (0)), .int (i32 (r351)), .int (i32 (7)), .ref 66]) rfl rfl rfl rfl ?_
                              refine jx_ar (pc' := 128) (st' := [.int (i32 (0)), .int (i32 (0)), .int (i32 (r351)), .int (i32 (7)), .ref 66]) rfl rfl rfl rfl ?_
                              refine jx_ar (pc' := 129) (st' := [.int (i32 (0)), .int (i32 (0)), .int (i32 (0)), .int (i32 (r351)), .int (i32 (7)), .ref 66]) rfl rfl rfl rfl ?_
                              refine jx_vr (pc' := 132) (as := [.int (i32 (7)), .int (i32 (r351)), .int (i32 (0)), .int (i32 (0)), .int (i32 (0))]) (st := []) rfl rfl rfl rfl ⟨rfl, rfl, Nat.le_of_ble_eq_true rfl⟩ rfl rfl (c_node (dd := d) (hd := by omega) (hW := hW418) (kind := 7) (a := r351) (b := 0) (c := 0) (e := 0) (nd := nd2_355) (e_nd := show (uG G395 15 ((op2_354 - 1))) 31 = nd2_355 from ((hF401.1 31 rfl).trans (e364)))  (h_kind := ⟨(by decide), (by decide)⟩) (h_a := ⟨(Int.le_trans (by decide : (-2147483648 : Int) ≤ -2147483648) b360.1), (Int.le_trans b360.2 (by decide : (2147483647 : Int) ≤ 2147483647))⟩) (h_b := ⟨(by decide), (by decide)⟩) (h_c := ⟨(by decide), (by decide)⟩) (h_e := ⟨(by decide), (by decide)⟩)  (p_0 := by omega) (p_1 := by omega)) (fun o V' hq => ?_)
                              obtain ⟨G420, A421, nd2_422, rfl, rfl, hW423, hF424, hQ425, e426, p427, -⟩ := hq
                              have hF429 := Fr_tr hF419 hF424 (Fr_sub (by decide)) (Fr_sub (by decide))
                              have hP430 := Pf_tr hP409 hQ425 (by omega)
                              have bnd2_422 : (0 : Int) ≤ nd2_422 ∧ nd2_422 ≤ 6999 := e426 ▸ hW423.1 31
                              refine .inr ⟨_, rfl, ?_⟩
                              refine jx_rt (v := some (.int (i32 (nd2_355)))) rfl rfl rfl rfl rfl rfl ?_
                              have z431 := tz_f (tk2_398)
                              exact ⟨_, _, _, at2_397, fk2_399, (op2_354 - 1), nd2_422, tk2_398, rfl, rfl, hW423, hF429, hP430, by omega, ((hF424.1 10 rfl).trans (e402)), ((hF424.1 16 rfl).trans (e404)), (hF424.1 15 rfl), (e426), ((hF424.1 11 rfl).trans (e403)), by omega, by omega, by omega, by omega, by omega, by omega, by first | exact Or.inl (⟨by omega, by omega, by omega, by omega, by omega, by omega⟩) | exact Or.inr (Or.inl (⟨by omega, by omega, by omega⟩)) | exact Or.inr (Or.inr ((⟨by omega, by omega, by omega⟩)))⟩
                            · have _q : True := trivial
                              exfalso
                              omega
                          · have _q : True := trivial
                            refine jx_vr (pc' := 112) (as := [.int (i32 (0))]) (st := []) rfl rfl rfl rfl ⟨rfl, rfl, Nat.le_of_ble_eq_true rfl⟩ rfl rfl (c_need (dd := d) (hd := by omega) (hW := hW357) (g := 0) (ln := ln) (e_ln := show G349 9 = ln from ((hF358.1 9 rfl).trans ((hF332.1 9 rfl).trans ((hF315.1 9 rfl).trans (e_ln))))) (le := le) (e_le := show A350 4 (ln).toNat = le from (congrFun ((hF358.2 4 rfl).trans ((hF332.2 4 rfl).trans (hF315.2 4 rfl))) _).trans (e_le)) (at0 := at2_352) (e_at0 := show G349 10 = at2_352 from (e361)) (fk := fk2_353) (e_fk := show G349 16 = fk2_353 from (e362)) (tk0 := tk2_356) (e_tk0 := show G349 11 = tk2_356 from (e365))  (h_g := ⟨(by decide), (by decide)⟩)  (p_0 := by omega)) (fun o V' hq => ?_)
                            obtain ⟨G432, A433, at2_434, tk2_435, fk2_436, rfl, rfl, hW437, hF438, e439, e440, e441, p442, p443, q444⟩ := hq
                            have hF445 := Fr_tr hF373 hF438 (Fr_sub (by decide)) (Fr_sub (by decide))
                            have hP446 := Pf_f hP374 hF438 (by decide)
                            have bat2_434 : (0 : Int) ≤ at2_434 ∧ at2_434 ≤ 3002 := e439 ▸ hW437.1 10
                            have ztk2_435 := tz_b tk2_435
                            have btk2_435 : (0 : Int) ≤ tk2_435 ∧ tk2_435 ≤ 5 := e440 ▸ hW437.1 11
                            have bfk2_436 : (0 : Int) ≤ fk2_436 ∧ fk2_436 ≤ 6 := e441 ▸ hW437.1 16
                            refine .inl ⟨rfl, ?_⟩
                            rcases q444 with ⟨a447, a448, a449, a450⟩ | ⟨a451, a452, a453, a454⟩
                            · have _q : True := trivial
                              refine jx_ld (pc' := 113) (l' := L387) (st' := [.ref 66]) rfl (jl_aloadn gL387_0) ?_
                              refine jx_ar (pc' := 114) (st' := [.ref 66, .ref 66]) rfl rfl rfl rfl ?_
                              refine jr_get (pc' := 117) (i := 15) (v := .int (i32 (op2_354))) rfl rfl (by decide) (rFv_eq (by decide) (show G432 15 = op2_354 from ((hF438.1 15 rfl).trans (e363)))) rfl ?_
                              refine jx_ar (pc' := 118) (st' := [.int (i32 (1)), .int (i32 (op2_354)), .ref 66]) rfl rfl rfl rfl ?_
                              refine jx_sub (pc' := 119) rfl rfl ?_
                              refine jr_put (pc' := 122) (i := 15) (z := (op2_354 - 1)) rfl rfl (by decide) rfl rfl rfl rfl rfl rfl ?_
                              have hW455 : Wk (uG G432 15 ((op2_354 - 1))) A433 := Wk_g hW437 (show (-2147483648 : Int) ≤ (op2_354 - 1) by omega) (show (op2_354 - 1) ≤ (2147483647 : Int) by omega)
                              have hF456 := Fr_g (z := (op2_354 - 1)) (i := 15) hF445 (by decide)
                              refine jx_ld (pc' := 123) (l' := L387) (st' := [.ref 66]) rfl (jl_aloadn gL387_0) ?_
                              refine jx_ar (pc' := 125) (st' := [.int (i32 (7)), .ref 66]) rfl rfl rfl rfl ?_
                              refine jx_ld (pc' := 126) (l' := L387) (st' := [.int (i32 (r351)), .int (i32 (7)), .ref 66]) rfl (jl_iloadn gL387_1) ?_
                              refine jx_ar (pc' := 127) (st' := [.int (i32 (0)), .int (i32 (r351)), .int (i32 (7)), .ref 66]) rfl rfl rfl rfl ?_
                              refine jx_ar (pc' := 128) (st' := [.int (i32 (0)), .int (i32 (0)), .int (i32 (r351)), .int (i32 (7)), .ref 66]) rfl rfl rfl rfl ?_
                              refine jx_ar (pc' := 129) (st' := [.int (i32 (0)), .int (i32 (0)), .int (i32 (0)), .int (i32 (r351)), .int (i32 (7)), .ref 66]) rfl rfl rfl rfl ?_
                              refine jx_vr (pc' := 132) (as := [.int (i32 (7)), .int (i32 (r351)), .int (i32 (0)), .int (i32 (0)), .int (i32 (0))]) (st := []) rfl rfl rfl rfl ⟨rfl, rfl, Nat.le_of_ble_eq_true rfl⟩ rfl rfl (c_node (dd := d) (hd := by omega) (hW := hW455) (kind := 7) (a := r351) (b := 0) (c := 0) (e := 0) (nd := nd2_355) (e_nd := show (uG G432 15 ((op2_354 - 1))) 31 = nd2_355 from ((hF438.1 31 rfl).trans (e364)))  (h_kind := ⟨(by decide), (by decide)⟩) (h_a := ⟨(Int.le_trans (by decide : (-2147483648 : Int) ≤ -2147483648) b360.1), (Int.le_trans b360.2 (by decide : (2147483647 : Int) ≤ 2147483647))⟩) (h_b := ⟨(by decide), (by decide)⟩) (h_c := ⟨(by decide), (by decide)⟩) (h_e := ⟨(by decide), (by decide)⟩)  (p_0 := by omega) (p_1 := by omega)) (fun o V' hq => ?_)
                              obtain ⟨G457, A458, nd2_459, rfl, rfl, hW460, hF461, hQ462, e463, p464, -⟩ := hq
                              have hF466 := Fr_tr hF456 hF461 (Fr_sub (by decide)) (Fr_sub (by decide))
                              have hP467 := Pf_tr hP446 hQ462 (by omega)
                              have bnd2_459 : (0 : Int) ≤ nd2_459 ∧ nd2_459 ≤ 6999 := e463 ▸ hW460.1 31
                              refine .inr ⟨_, rfl, ?_⟩
                              refine jx_rt (v := some (.int (i32 (nd2_355)))) rfl rfl rfl rfl rfl rfl ?_
                              have z468 := tz_f (tk2_435)
                              exact ⟨_, _, _, at2_434, fk2_436, (op2_354 - 1), nd2_459, tk2_435, rfl, rfl, hW460, hF466, hP467, by omega, ((hF461.1 10 rfl).trans (e439)), ((hF461.1 16 rfl).trans (e441)), (hF461.1 15 rfl), (e463), ((hF461.1 11 rfl).trans (e440)), by omega, by omega, by omega, by omega, by omega, by omega, by first | exact Or.inl (⟨by omega, by omega, by omega, by omega, by omega, by omega⟩) | exact Or.inr (Or.inl (⟨by omega, by omega, by omega⟩)) | exact Or.inr (Or.inr ((⟨by omega, by omega, by omega⟩)))⟩
                            · have _q : True := trivial
                              exfalso
                              omega
                        · have _q : True := trivial
                          exfalso
                          omega
                        · have _q : True := trivial
                          exfalso
                          omega
                      · have _q : True := trivial
                        exfalso
                        omega
                    · have _q : True := trivial
                      refine jx_ld (pc' := 93) (l' := [(0, .ref 66)]) (st' := [.ref 66]) rfl (jl_aloadn rfl) ?_
                      refine jx_ar (pc' := 94) (st' := [.int (i32 (1)), .ref 66]) rfl rfl rfl rfl ?_
                      refine jx_vr (pc' := 97) (as := [.int (i32 (1))]) (st := []) rfl rfl rfl rfl ⟨rfl, rfl, Nat.le_of_ble_eq_true rfl⟩ rfl rfl (c_need (dd := d) (hd := by omega) (hW := hW314) (g := 1) (ln := ln) (e_ln := show G310 9 = ln from ((hF315.1 9 rfl).trans (e_ln))) (le := le) (e_le := show A311 4 (ln).toNat = le from (congrFun (hF315.2 4 rfl) _).trans (e_le)) (at0 := at0) (e_at0 := show G310 10 = at0 from ((hF315.1 10 rfl).trans (e_at0))) (fk := fk2_312) (e_fk := show G310 16 = fk2_312 from (e316)) (tk0 := tk0) (e_tk0 := show G310 11 = tk0 from ((hF315.1 11 rfl).trans (e_tk0)))  (h_g := ⟨(by decide), (by decide)⟩)  (p_0 := by omega)) (fun o V' hq => ?_)
                      obtain ⟨G469, A470, at2_471, tk2_472, fk2_473, rfl, rfl, hW474, hF475, e476, e477, e478, p479, p480, q481⟩ := hq
                      have hF482 := Fr_tr hF320 hF475 (Fr_sub (by decide)) (Fr_sub (by decide))
                      have hP483 := Pf_f hP321 hF475 (by decide)
                      have bat2_471 : (0 : Int) ≤ at2_471 ∧ at2_471 ≤ 3002 := e476 ▸ hW474.1 10
                      have ztk2_472 := tz_b tk2_472
                      have btk2_472 : (0 : Int) ≤ tk2_472 ∧ tk2_472 ≤ 5 := e477 ▸ hW474.1 11
                      have bfk2_473 : (0 : Int) ≤ fk2_473 ∧ fk2_473 ≤ 6 := e478 ▸ hW474.1 16
                      refine .inl ⟨rfl, ?_⟩
                      rcases q481 with ⟨a484, a485, a486, a487⟩ | ⟨a488, a489, a490, a491⟩
                      · have _q : True := trivial
                        refine jx_ld (pc' := 98) (l' := [(0, .ref 66)]) (st' := [.ref 66]) rfl (jl_aloadn rfl) ?_
                        refine jx_vr (pc' := 101) (as := []) (st := []) rfl rfl rfl rfl ⟨rfl, rfl, Nat.le_of_ble_eq_true rfl⟩ rfl rfl (hE (dd := d) (hd := by omega) (hW := hW474)  (ln := ln) (e_ln := show G469 9 = ln from ((hF475.1 9 rfl).trans ((hF315.1 9 rfl).trans (e_ln)))) (le := le) (e_le := show A470 4 (ln).toNat = le from (congrFun ((hF475.2 4 rfl).trans (hF315.2 4 rfl)) _).trans (e_le)) (at0 := at2_471) (e_at0 := show G469 10 = at2_471 from (e476)) (fk := fk2_473) (e_fk := show G469 16 = fk2_473 from (e478)) (op0 := op2_313) (e_op0 := show G469 15 = op2_313 from ((hF475.1 15 rfl).trans (e317))) (nd := nd) (e_nd := show G469 31 = nd from ((hF475.1 31 rfl).trans ((hF315.1 31 rfl).trans (e_nd)))) (tk0 := tk2_472) (e_tk0 := show G469 11 = tk2_472 from (e477))    (p_0 := by omega) (p_1 := by omega) (p_2 := by omega) (p_3 := by omega) (p_4 := by omega) (p_5 := by omega)) (fun o V' hq => ?_)
                        obtain ⟨G492, A493, r494, at2_495, fk2_496, op2_497, nd2_498, tk2_499, rfl, rfl, hW500, hF501, hQ502, b503, e504, e505, e506, e507, e508, p509, p510, p511, p512, p513, p514, q515⟩ := hq
                        have hF516 := Fr_tr hF482 hF501 (Fr_sub (by decide)) (Fr_sub (by decide))
                        have hP517 := Pf_tr hP483 hQ502 (by omega)
                        have bat2_495 : (0 : Int) ≤ at2_495 ∧ at2_495 ≤ 3002 := e504 ▸ hW500.1 10
                        have bfk2_496 : (0 : Int) ≤ fk2_496 ∧ fk2_496 ≤ 6 := e505 ▸ hW500.1 16
                        have bop2_497 : (-2147483648 : Int) ≤ op2_497 ∧ op2_497 ≤ 2147483647 := e506 ▸ hW500.1 15
                        have bnd2_498 : (0 : Int) ≤ nd2_498 ∧ nd2_498 ≤ 6999 := e507 ▸ hW500.1 31
                        have ztk2_499 := tz_b tk2_499
                        have btk2_499 : (0 : Int) ≤ tk2_499 ∧ tk2_499 ≤ 5 := e508 ▸ hW500.1 11
                        refine .inr ⟨_, rfl, ?_⟩
                        rcases q515 with ⟨a518, a519, a520, a521, a522, a523⟩ | ⟨a524, a525, a526⟩ | ⟨a527, a528, a529⟩
                        · have _q : True := trivial
                          refine jx_ld (pc' := 102) (l' := jSto1 [(0, .ref 66)] 1 (.int (i32 (r494)))) (st' := []) rfl rfl ?_
                          obtain ⟨L530, eL530⟩ : ∃ q, q = jSto1 [(0, .ref 66)] 1 (.int (i32 (r494))) := ⟨_, rfl⟩
                          rw [← eL530]
                          have gL530_0 : jGet L530 0 = some (.ref 66) := eL530 ▸ jg_ne (by decide) (rfl : jGet [(0, .ref 66)] 0 = some (.ref 66)) rfl
                          have gL530_1 : jGet L530 1 = some (.int (i32 (r494))) := eL530 ▸ jg_eq
                          refine jx_ld (pc' := 103) (l' := L530) (st' := [.ref 66]) rfl (jl_aloadn gL530_0) ?_
                          refine jx_ld (pc' := 104) (l' := L530) (st' := [.ref 66, .ref 66]) rfl (jl_aloadn gL530_0) ?_
                          refine jx_ar (pc' := 106) (st' := [.int (i32 (41)), .ref 66, .ref 66]) rfl rfl rfl rfl ?_
                          have b531 : (-2147483648 : Int) ≤ G492 13 ∧ G492 13 ≤ 2147483647 := hW500.1 13
                          refine jx_vr (pc' := 109) (as := [.int (i32 (41))]) (st := [.ref 66]) rfl rfl rfl rfl ⟨rfl, rfl, Nat.le_of_ble_eq_true rfl⟩ rfl rfl (c_is (dd := d) (hd := by omega) (hW := hW500) (k := 41) (tk := tk2_499) (e_tk := show G492 11 = tk2_499 from (e508)) (tn := G492 13) (e_tn := show G492 13 = G492 13 from rfl)  (h_k := ⟨(by decide), (by decide)⟩)  ) (fun o V' hq => ?_)
                          obtain ⟨r532, rfl, rfl, b533, q534⟩ := hq
                          refine .inr ⟨_, rfl, ?_⟩
                          rcases q534 with ⟨rfl, a535, a536, a537⟩ | rfl
                          · have _q : True := trivial
                            refine jx_vr (pc' := 112) (as := [.int (i32 (1))]) (st := []) rfl rfl rfl rfl ⟨rfl, rfl, Nat.le_of_ble_eq_true rfl⟩ rfl rfl (c_need (dd := d) (hd := by omega) (hW := hW500) (g := 1) (ln := ln) (e_ln := show G492 9 = ln from ((hF501.1 9 rfl).trans ((hF475.1 9 rfl).trans ((hF315.1 9 rfl).trans (e_ln))))) (le := le) (e_le := show A493 4 (ln).toNat = le from (congrFun ((hF501.2 4 rfl).trans ((hF475.2 4 rfl).trans (hF315.2 4 rfl))) _).trans (e_le)) (at0 := at2_495) (e_at0 := show G492 10 = at2_495 from (e504)) (fk := fk2_496) (e_fk := show G492 16 = fk2_496 from (e505)) (tk0 := tk2_499) (e_tk0 := show G492 11 = tk2_499 from (e508))  (h_g := ⟨(by decide), (by decide)⟩)  (p_0 := by omega)) (fun o V' hq => ?_)
                            obtain ⟨G538, A539, at2_540, tk2_541, fk2_542, rfl, rfl, hW543, hF544, e545, e546, e547, p548, p549, q550⟩ := hq
                            have hF551 := Fr_tr hF516 hF544 (Fr_sub (by decide)) (Fr_sub (by decide))
                            have hP552 := Pf_f hP517 hF544 (by decide)
                            have bat2_540 : (0 : Int) ≤ at2_540 ∧ at2_540 ≤ 3002 := e545 ▸ hW543.1 10
                            have ztk2_541 := tz_b tk2_541
                            have btk2_541 : (0 : Int) ≤ tk2_541 ∧ tk2_541 ≤ 5 := e546 ▸ hW543.1 11
                            have bfk2_542 : (0 : Int) ≤ fk2_542 ∧ fk2_542 ≤ 6 := e547 ▸ hW543.1 16
                            refine .inl ⟨rfl, ?_⟩
                            rcases q550 with ⟨a553, a554, a555, a556⟩ | ⟨a557, a558, a559, a560⟩
                            · have _q : True := trivial
                              refine jx_ld (pc' := 113) (l' := L530) (st' := [.ref 66]) rfl (jl_aloadn gL530_0) ?_
                              refine jx_ar (pc' := 114) (st' := [.ref 66, .ref 66]) rfl rfl rfl rfl ?_
                              refine jr_get (pc' := 117) (i := 15) (v := .int (i32 (op2_497))) rfl rfl (by decide) (rFv_eq (by decide) (show G538 15 = op2_497 from ((hF544.1 15 rfl).trans (e506)))) rfl ?_
                              refine jx_ar (pc' := 118) (st' := [.int (i32 (1)), .int (i32 (op2_497)), .ref 66]) rfl rfl rfl rfl ?_
                              refine jx_sub (pc' := 119) rfl rfl ?_
                              refine jr_put (pc' := 122) (i := 15) (z := (op2_497 - 1)) rfl rfl (by decide) rfl rfl rfl rfl rfl rfl ?_
                              have hW561 : Wk (uG G538 15 ((op2_497 - 1))) A539 := Wk_g hW543 (show (-2147483648 : Int) ≤ (op2_497 - 1) by omega) (show (op2_497 - 1) ≤ (2147483647 : Int) by omega)
                              have hF562 := Fr_g (z := (op2_497 - 1)) (i := 15) hF551 (by decide)
                              refine jx_ld (pc' := 123) (l' := L530) (st' := [.ref 66]) rfl (jl_aloadn gL530_0) ?_
                              refine jx_ar (pc' := 125) (st' := [.int (i32 (7)), .ref 66]) rfl rfl rfl rfl ?_
                              refine jx_ld (pc' := 126) (l' := L530) (st' := [.int (i32 (r494)), .int (i32 (7)), .ref 66]) rfl (jl_iloadn gL530_1) ?_
                              refine jx_ar (pc' := 127) (st' := [.int (i32 (0)), .int (i32 (r494)), .int (i32 (7)), .ref 66]) rfl rfl rfl rfl ?_
                              refine jx_ar (pc' := 128) (st' := [.int (i32 (0)), .int (i32 (0)), .int (i32 (r494)), .int (i32 (7)), .ref 66]) rfl rfl rfl rfl ?_
                              refine jx_ar (pc' := 129) (st' := [.int (i32 (0)), .int (i32 (0)), .int (i32 (0)), .int (i32 (r494)), .int (i32 (7)), .ref 66]) rfl rfl rfl rfl ?_
                              refine jx_vr (pc' := 132) (as := [.int (i32 (7)), .int (i32 (r494)), .int (i32 (0)), .int (i32 (0)), .int (i32 (0))]) (st := []) rfl rfl rfl rfl ⟨rfl, rfl, Nat.le_of_ble_eq_true rfl⟩ rfl rfl (c_node (dd := d) (hd := by omega) (hW := hW561) (kind := 7) (a := r494) (b := 0) (c := 0) (e := 0) (nd := nd2_498) (e_nd := show (uG G538 15 ((op2_497 - 1))) 31 = nd2_498 from ((hF544.1 31 rfl).trans (e507)))  (h_kind := ⟨(by decide), (by decide)⟩) (h_a := ⟨(Int.le_trans (by decide : (-2147483648 : Int) ≤ -2147483648) b503.1), (Int.le_trans b503.2 (by decide : (2147483647 : Int) ≤ 2147483647))⟩) (h_b := ⟨(by decide), (by decide)⟩) (h_c := ⟨(by decide), (by decide)⟩) (h_e := ⟨(by decide), (by decide)⟩)  (p_0 := by omega) (p_1 := by omega)) (fun o V' hq => ?_)
                              obtain ⟨G563, A564, nd2_565, rfl, rfl, hW566, hF567, hQ568, e569, p570, -⟩ := hq
                              have hF572 := Fr_tr hF562 hF567 (Fr_sub (by decide)) (Fr_sub (by decide))
                              have hP573 := Pf_tr hP552 hQ568 (by omega)
                              have bnd2_565 : (0 : Int) ≤ nd2_565 ∧ nd2_565 ≤ 6999 := e569 ▸ hW566.1 31
                              refine .inr ⟨_, rfl, ?_⟩
                              refine jx_rt (v := some (.int (i32 (nd2_498)))) rfl rfl rfl rfl rfl rfl ?_
                              have z574 := tz_f (tk2_541)
                              exact ⟨_, _, _, at2_540, fk2_542, (op2_497 - 1), nd2_565, tk2_541, rfl, rfl, hW566, hF572, hP573, by omega, ((hF567.1 10 rfl).trans (e545)), ((hF567.1 16 rfl).trans (e547)), (hF567.1 15 rfl), (e569), ((hF567.1 11 rfl).trans (e546)), by omega, by omega, by omega, by omega, by omega, by omega, by first | exact Or.inl (⟨by omega, by omega, by omega, by omega, by omega, by omega⟩) | exact Or.inr (Or.inl (⟨by omega, by omega, by omega⟩)) | exact Or.inr (Or.inr ((⟨by omega, by omega, by omega⟩)))⟩
                            · have _q : True := trivial
                              exfalso
                              omega
                          · have _q : True := trivial
                            refine jx_vr (pc' := 112) (as := [.int (i32 (0))]) (st := []) rfl rfl rfl rfl ⟨rfl, rfl, Nat.le_of_ble_eq_true rfl⟩ rfl rfl (c_need (dd := d) (hd := by omega) (hW := hW500) (g := 0) (ln := ln) (e_ln := show G492 9 = ln from ((hF501.1 9 rfl).trans ((hF475.1 9 rfl).trans ((hF315.1 9 rfl).trans (e_ln))))) (le := le) (e_le := show A493 4 (ln).toNat = le from (congrFun ((hF501.2 4 rfl).trans ((hF475.2 4 rfl).trans (hF315.2 4 rfl))) _).trans (e_le)) (at0 := at2_495) (e_at0 := show G492 10 = at2_495 from (e504)) (fk := fk2_496) (e_fk := show G492 16 = fk2_496 from (e505)) (tk0 := tk2_499) (e_tk0 := show G492 11 = tk2_499 from (e508))  (h_g := ⟨(by decide), (by decide)⟩)  (p_0 := by omega)) (fun o V' hq => ?_)
                            obtain ⟨G575, A576, at2_577, tk2_578, fk2_579, rfl, rfl, hW580, hF581, e582, e583, e584, p585, p586, q587⟩ := hq
                            have hF588 := Fr_tr hF516 hF581 (Fr_sub (by decide)) (Fr_sub (by decide))
                            have hP589 := Pf_f hP517 hF581 (by decide)
                            have bat2_577 : (0 : Int) ≤ at2_577 ∧ at2_577 ≤ 3002 := e582 ▸ hW580.1 10
                            have ztk2_578 := tz_b tk2_578
                            have btk2_578 : (0 : Int) ≤ tk2_578 ∧ tk2_578 ≤ 5 := e583 ▸ hW580.1 11
                            have bfk2_579 : (0 : Int) ≤ fk2_579 ∧ fk2_579 ≤ 6 := e584 ▸ hW580.1 16
                            refine .inl ⟨rfl, ?_⟩
                            rcases q587 with ⟨a590, a591, a592, a593⟩ | ⟨a594, a595, a596, a597⟩
                            · have _q : True := trivial
                              refine jx_ld (pc' := 113) (l' := L530) (st' := [.ref 66]) rfl (jl_aloadn gL530_0) ?_
                              refine jx_ar (pc' := 114) (st' := [.ref 66, .ref 66]) rfl rfl rfl rfl ?_
                              refine jr_get (pc' := 117) (i := 15) (v := .int (i32 (op2_497))) rfl rfl (by decide) (rFv_eq (by decide) (show G575 15 = op2_497 from ((hF581.1 15 rfl).trans (e506)))) rfl ?_
                              refine jx_ar (pc' := 118) (st' := [.int (i32 (1)), .int (i32 (op2_497)), .ref 66]) rfl rfl rfl rfl ?_
                              refine jx_sub (pc' := 119) rfl rfl ?_
                              refine jr_put (pc' := 122) (i := 15) (z := (op2_497 - 1)) rfl rfl (by decide) rfl rfl rfl rfl rfl rfl ?_
                              have hW598 : Wk (uG G575 15 ((op2_497 - 1))) A576 := Wk_g hW580 (show (-2147483648 : Int) ≤ (op2_497 - 1) by omega) (show (op2_497 - 1) ≤ (2147483647 : Int) by omega)
                              have hF599 := Fr_g (z := (op2_497 - 1)) (i := 15) hF588 (by decide)
                              refine jx_ld (pc' := 123) (l' := L530) (st' := [.ref 66]) rfl (jl_aloadn gL530_0) ?_
                              refine jx_ar (pc' := 125) (st' := [.int (i32 (7)), .ref 66]) rfl rfl rfl rfl ?_
                              refine jx_ld (pc' := 126) (l' := L530) (st' := [.int (i32 (r494)), .int (i32 (7)), .ref 66]) rfl (jl_iloadn gL530_1) ?_
                              refine jx_ar (pc' := 127) (st' := [.int (i32 (0)), .int (i32 (r494)), .int (i32 (7)), .ref 66]) rfl rfl rfl rfl ?_
                              refine jx_ar (pc' := 128) (st' := [.int (i32 (0)), .int (i32 (0)), .int (i32 (r494)), .int (i32 (7)), .ref 66]) rfl rfl rfl rfl ?_
                              refine jx_ar (pc' := 129) (st' := [.int (i32 (0)), .int (i32 (0)), .int (i32 (0)), .int (i32 (r494)), .int (i32 (7)), .ref 66]) rfl rfl rfl rfl ?_
                              refine jx_vr (pc' := 132) (as := [.int (i32 (7)), .int (i32 (r494)), .int (i32 (0)), .int (i32 (0)), .int (i32 (0))]) (st := []) rfl rfl rfl rfl ⟨rfl, rfl, Nat.le_of_ble_eq_true rfl⟩ rfl rfl (c_node (dd := d) (hd := by omega) (hW := hW598) (kind := 7) (a := r494) (b := 0) (c := 0) (e := 0) (nd := nd2_498) (e_nd := show (uG G575 15 ((op2_497 - 1))) 31 = nd2_498 from ((hF581.1 31 rfl).trans (e507)))  (h_kind := ⟨(by decide), (by decide)⟩) (h_a := ⟨(Int.le_trans (by decide : (-2147483648 : Int) ≤ -2147483648) b503.1), (Int.le_trans b503.2 (by decide : (2147483647 : Int) ≤ 2147483647))⟩) (h_b := ⟨(by decide), (by decide)⟩) (h_c := ⟨(by decide), (by decide)⟩) (h_e := ⟨(by decide), (by decide)⟩)  (p_0 := by omega) (p_1 := by omega)) (fun o V' hq => ?_)
                              obtain ⟨G600, A601, nd2_602, rfl, rfl, hW603, hF604, hQ605, e606, p607, -⟩ := hq
                              have hF609 := Fr_tr hF599 hF604 (Fr_sub (by decide)) (Fr_sub (by decide))
                              have hP610 := Pf_tr hP589 hQ605 (by omega)
                              have bnd2_602 : (0 : Int) ≤ nd2_602 ∧ nd2_602 ≤ 6999 := e606 ▸ hW603.1 31
                              refine .inr ⟨_, rfl, ?_⟩
                              refine jx_rt (v := some (.int (i32 (nd2_498)))) rfl rfl rfl rfl rfl rfl ?_
                              have z611 := tz_f (tk2_578)
                              exact ⟨_, _, _, at2_577, fk2_579, (op2_497 - 1), nd2_602, tk2_578, rfl, rfl, hW603, hF609, hP610, by omega, ((hF604.1 10 rfl).trans (e582)), ((hF604.1 16 rfl).trans (e584)), (hF604.1 15 rfl), (e606), ((hF604.1 11 rfl).trans (e583)), by omega, by omega, by omega, by omega, by omega, by omega, by first | exact Or.inl (⟨by omega, by omega, by omega, by omega, by omega, by omega⟩) | exact Or.inr (Or.inl (⟨by omega, by omega, by omega⟩)) | exact Or.inr (Or.inr ((⟨by omega, by omega, by omega⟩)))⟩
                            · have _q : True := trivial
                              exfalso
                              omega
                        · have _q : True := trivial
                          exfalso
                          omega
                        · have _q : True := trivial
                          exfalso
                          omega
                      · have _q : True := trivial
                        refine jx_ld (pc' := 98) (l' := [(0, .ref 66)]) (st' := [.ref 66]) rfl (jl_aloadn rfl) ?_
                        refine jx_vr (pc' := 101) (as := []) (st := []) rfl rfl rfl rfl ⟨rfl, rfl, Nat.le_of_ble_eq_true rfl⟩ rfl rfl (hE (dd := d) (hd := by omega) (hW := hW474)  (ln := ln) (e_ln := show G469 9 = ln from ((hF475.1 9 rfl).trans ((hF315.1 9 rfl).trans (e_ln)))) (le := le) (e_le := show A470 4 (ln).toNat = le from (congrFun ((hF475.2 4 rfl).trans (hF315.2 4 rfl)) _).trans (e_le)) (at0 := at2_471) (e_at0 := show G469 10 = at2_471 from (e476)) (fk := fk2_473) (e_fk := show G469 16 = fk2_473 from (e478)) (op0 := op2_313) (e_op0 := show G469 15 = op2_313 from ((hF475.1 15 rfl).trans (e317))) (nd := nd) (e_nd := show G469 31 = nd from ((hF475.1 31 rfl).trans ((hF315.1 31 rfl).trans (e_nd)))) (tk0 := tk2_472) (e_tk0 := show G469 11 = tk2_472 from (e477))    (p_0 := by omega) (p_1 := by omega) (p_2 := by omega) (p_3 := by omega) (p_4 := by omega) (p_5 := by omega)) (fun o V' hq => ?_)
                        obtain ⟨G612, A613, r614, at2_615, fk2_616, op2_617, nd2_618, tk2_619, rfl, rfl, hW620, hF621, hQ622, b623, e624, e625, e626, e627, e628, p629, p630, p631, p632, p633, p634, q635⟩ := hq
                        have hF636 := Fr_tr hF482 hF621 (Fr_sub (by decide)) (Fr_sub (by decide))
                        have hP637 := Pf_tr hP483 hQ622 (by omega)
                        have bat2_615 : (0 : Int) ≤ at2_615 ∧ at2_615 ≤ 3002 := e624 ▸ hW620.1 10
                        have bfk2_616 : (0 : Int) ≤ fk2_616 ∧ fk2_616 ≤ 6 := e625 ▸ hW620.1 16
                        have bop2_617 : (-2147483648 : Int) ≤ op2_617 ∧ op2_617 ≤ 2147483647 := e626 ▸ hW620.1 15
                        have bnd2_618 : (0 : Int) ≤ nd2_618 ∧ nd2_618 ≤ 6999 := e627 ▸ hW620.1 31
                        have ztk2_619 := tz_b tk2_619
                        have btk2_619 : (0 : Int) ≤ tk2_619 ∧ tk2_619 ≤ 5 := e628 ▸ hW620.1 11
                        refine .inr ⟨_, rfl, ?_⟩
                        rcases q635 with ⟨a638, a639, a640, a641, a642, a643⟩ | ⟨a644, a645, a646⟩ | ⟨a647, a648, a649⟩
                        · have _q : True := trivial
                          exfalso
                          omega
                        · have _q : True := trivial
                          refine jx_ld (pc' := 102) (l' := jSto1 [(0, .ref 66)] 1 (.int (i32 (r614)))) (st' := []) rfl rfl ?_
                          obtain ⟨L650, eL650⟩ : ∃ q, q = jSto1 [(0, .ref 66)] 1 (.int (i32 (r614))) := ⟨_, rfl⟩
                          rw [← eL650]
                          have gL650_0 : jGet L650 0 = some (.ref 66) := eL650 ▸ jg_ne (by decide) (rfl : jGet [(0, .ref 66)] 0 = some (.ref 66)) rfl
                          have gL650_1 : jGet L650 1 = some (.int (i32 (r614))) := eL650 ▸ jg_eq
                          refine jx_ld (pc' := 103) (l' := L650) (st' := [.ref 66]) rfl (jl_aloadn gL650_0) ?_
                          refine jx_ld (pc' := 104) (l' := L650) (st' := [.ref 66, .ref 66]) rfl (jl_aloadn gL650_0) ?_
                          refine jx_ar (pc' := 106) (st' := [.int (i32 (41)), .ref 66, .ref 66]) rfl rfl rfl rfl ?_
                          have b651 : (-2147483648 : Int) ≤ G612 13 ∧ G612 13 ≤ 2147483647 := hW620.1 13
                          refine jx_vr (pc' := 109) (as := [.int (i32 (41))]) (st := [.ref 66]) rfl rfl rfl rfl ⟨rfl, rfl, Nat.le_of_ble_eq_true rfl⟩ rfl rfl (c_is (dd := d) (hd := by omega) (hW := hW620) (k := 41) (tk := tk2_619) (e_tk := show G612 11 = tk2_619 from (e628)) (tn := G612 13) (e_tn := show G612 13 = G612 13 from rfl)  (h_k := ⟨(by decide), (by decide)⟩)  ) (fun o V' hq => ?_)
                          obtain ⟨r652, rfl, rfl, b653, q654⟩ := hq
                          refine .inr ⟨_, rfl, ?_⟩
                          rcases q654 with ⟨rfl, a655, a656, a657⟩ | rfl
                          · have _q : True := trivial
                            refine jx_vr (pc' := 112) (as := [.int (i32 (1))]) (st := []) rfl rfl rfl rfl ⟨rfl, rfl, Nat.le_of_ble_eq_true rfl⟩ rfl rfl (c_need (dd := d) (hd := by omega) (hW := hW620) (g := 1) (ln := ln) (e_ln := show G612 9 = ln from ((hF621.1 9 rfl).trans ((hF475.1 9 rfl).trans ((hF315.1 9 rfl).trans (e_ln))))) (le := le) (e_le := show A613 4 (ln).toNat = le from (congrFun ((hF621.2 4 rfl).trans ((hF475.2 4 rfl).trans (hF315.2 4 rfl))) _).trans (e_le)) (at0 := at2_615) (e_at0 := show G612 10 = at2_615 from (e624)) (fk := fk2_616) (e_fk := show G612 16 = fk2_616 from (e625)) (tk0 := tk2_619) (e_tk0 := show G612 11 = tk2_619 from (e628))  (h_g := ⟨(by decide), (by decide)⟩)  (p_0 := by omega)) (fun o V' hq => ?_)
                            obtain ⟨G658, A659, at2_660, tk2_661, fk2_662, rfl, rfl, hW663, hF664, e665, e666, e667, p668, p669, q670⟩ := hq
                            have hF671 := Fr_tr hF636 hF664 (Fr_sub (by decide)) (Fr_sub (by decide))
                            have hP672 := Pf_f hP637 hF664 (by decide)
                            have bat2_660 : (0 : Int) ≤ at2_660 ∧ at2_660 ≤ 3002 := e665 ▸ hW663.1 10
                            have ztk2_661 := tz_b tk2_661
                            have btk2_661 : (0 : Int) ≤ tk2_661 ∧ tk2_661 ≤ 5 := e666 ▸ hW663.1 11
                            have bfk2_662 : (0 : Int) ≤ fk2_662 ∧ fk2_662 ≤ 6 := e667 ▸ hW663.1 16
                            refine .inl ⟨rfl, ?_⟩
                            rcases q670 with ⟨a673, a674, a675, a676⟩ | ⟨a677, a678, a679, a680⟩
                            · have _q : True := trivial
                              refine jx_ld (pc' := 113) (l' := L650) (st' := [.ref 66]) rfl (jl_aloadn gL650_0) ?_
                              refine jx_ar (pc' := 114) (st' := [.ref 66, .ref 66]) rfl rfl rfl rfl ?_
                              refine jr_get (pc' := 117) (i := 15) (v := .int (i32 (op2_617))) rfl rfl (by decide) (rFv_eq (by decide) (show G658 15 = op2_617 from ((hF664.1 15 rfl).trans (e626)))) rfl ?_
                              refine jx_ar (pc' := 118) (st' := [.int (i32 (1)), .int (i32 (op2_617)), .ref 66]) rfl rfl rfl rfl ?_
                              refine jx_sub (pc' := 119) rfl rfl ?_
                              refine jr_put (pc' := 122) (i := 15) (z := (op2_617 - 1)) rfl rfl (by decide) rfl rfl rfl rfl rfl rfl ?_
                              have hW681 : Wk (uG G658 15 ((op2_617 - 1))) A659 := Wk_g hW663 (show (-2147483648 : Int) ≤ (op2_617 - 1) by omega) (show (op2_617 - 1) ≤ (2147483647 : Int) by omega)
                              have hF682 := Fr_g (z := (op2_617 - 1)) (i := 15) hF671 (by decide)
                              refine jx_ld (pc' := 123) (l' := L650) (st' := [.ref 66]) rfl (jl_aloadn gL650_0) ?_
                              refine jx_ar (pc' := 125) (st' := [.int (i32 (7)), .ref 66]) rfl rfl rfl rfl ?_
                              refine jx_ld (pc' := 126) (l' := L650) (st' := [.int (i32 (r614)), .int (i32 (7)), .ref 66]) rfl (jl_iloadn gL650_1) ?_
                              refine jx_ar (pc' := 127) (st' := [.int (i32 (0)), .int (i32 (r614)), .int (i32 (7)), .ref 66]) rfl rfl rfl rfl ?_
                              refine jx_ar (pc' := 128) (st' := [.int (i32 (0)), .int (i32 (0)), .int (i32 (r614)), .int (i32 (7)), .ref 66]) rfl rfl rfl rfl ?_
                              refine jx_ar (pc' := 129) (st' := [.int (i32 (0)), .int (i32 (0)), .int (i32 (0)), .int (i32 (r614)), .int (i32 (7)), .ref 66]) rfl rfl rfl rfl ?_
                              refine jx_vr (pc' := 132) (as := [.int (i32 (7)), .int (i32 (r614)), .int (i32 (0)), .int (i32 (0)), .int (i32 (0))]) (st := []) rfl rfl rfl rfl ⟨rfl, rfl, Nat.le_of_ble_eq_true rfl⟩ rfl rfl (c_node (dd := d) (hd := by omega) (hW := hW681) (kind := 7) (a := r614) (b := 0) (c := 0) (e := 0) (nd := nd2_618) (e_nd := show (uG G658 15 ((op2_617 - 1))) 31 = nd2_618 from ((hF664.1 31 rfl).trans (e627)))  (h_kind := ⟨(by decide), (by decide)⟩) (h_a := ⟨(Int.le_trans (by decide : (-2147483648 : Int) ≤ -2147483648) b623.1), (Int.le_trans b623.2 (by decide : (2147483647 : Int) ≤ 2147483647))⟩) (h_b := ⟨(by decide), (by decide)⟩) (h_c := ⟨(by decide), (by decide)⟩) (h_e := ⟨(by decide), (by decide)⟩)  (p_0 := by omega) (p_1 := by omega)) (fun o V' hq => ?_)
                              obtain ⟨G683, A684, nd2_685, rfl, rfl, hW686, hF687, hQ688, e689, p690, -⟩ := hq
                              have hF692 := Fr_tr hF682 hF687 (Fr_sub (by decide)) (Fr_sub (by decide))
                              have hP693 := Pf_tr hP672 hQ688 (by omega)
                              have bnd2_685 : (0 : Int) ≤ nd2_685 ∧ nd2_685 ≤ 6999 := e689 ▸ hW686.1 31
                              refine .inr ⟨_, rfl, ?_⟩
                              refine jx_rt (v := some (.int (i32 (nd2_618)))) rfl rfl rfl rfl rfl rfl ?_
                              have z694 := tz_f (tk2_661)
                              exact ⟨_, _, _, at2_660, fk2_662, (op2_617 - 1), nd2_685, tk2_661, rfl, rfl, hW686, hF692, hP693, by omega, ((hF687.1 10 rfl).trans (e665)), ((hF687.1 16 rfl).trans (e667)), (hF687.1 15 rfl), (e689), ((hF687.1 11 rfl).trans (e666)), by omega, by omega, by omega, by omega, by omega, by omega, by first | exact Or.inl (⟨by omega, by omega, by omega, by omega, by omega, by omega⟩) | exact Or.inr (Or.inl (⟨by omega, by omega, by omega⟩)) | exact Or.inr (Or.inr ((⟨by omega, by omega, by omega⟩)))⟩
                            · have _q : True := trivial
                              exfalso
                              omega
                          · have _q : True := trivial
                            refine jx_vr (pc' := 112) (as := [.int (i32 (0))]) (st := []) rfl rfl rfl rfl ⟨rfl, rfl, Nat.le_of_ble_eq_true rfl⟩ rfl rfl (c_need (dd := d) (hd := by omega) (hW := hW620) (g := 0) (ln := ln) (e_ln := show G612 9 = ln from ((hF621.1 9 rfl).trans ((hF475.1 9 rfl).trans ((hF315.1 9 rfl).trans (e_ln))))) (le := le) (e_le := show A613 4 (ln).toNat = le from (congrFun ((hF621.2 4 rfl).trans ((hF475.2 4 rfl).trans (hF315.2 4 rfl))) _).trans (e_le)) (at0 := at2_615) (e_at0 := show G612 10 = at2_615 from (e624)) (fk := fk2_616) (e_fk := show G612 16 = fk2_616 from (e625)) (tk0 := tk2_619) (e_tk0 := show G612 11 = tk2_619 from (e628))  (h_g := ⟨(by decide), (by decide)⟩)  (p_0 := by omega)) (fun o V' hq => ?_)
                            obtain ⟨G695, A696, at2_697, tk2_698, fk2_699, rfl, rfl, hW700, hF701, e702, e703, e704, p705, p706, q707⟩ := hq
                            have hF708 := Fr_tr hF636 hF701 (Fr_sub (by decide)) (Fr_sub (by decide))
                            have hP709 := Pf_f hP637 hF701 (by decide)
                            have bat2_697 : (0 : Int) ≤ at2_697 ∧ at2_697 ≤ 3002 := e702 ▸ hW700.1 10
                            have ztk2_698 := tz_b tk2_698
                            have btk2_698 : (0 : Int) ≤ tk2_698 ∧ tk2_698 ≤ 5 := e703 ▸ hW700.1 11
                            have bfk2_699 : (0 : Int) ≤ fk2_699 ∧ fk2_699 ≤ 6 := e704 ▸ hW700.1 16
                            refine .inl ⟨rfl, ?_⟩
                            rcases q707 with ⟨a710, a711, a712, a713⟩ | ⟨a714, a715, a716, a717⟩
                            · have _q : True := trivial
                              refine jx_ld (pc' := 113) (l' := L650) (st' := [.ref 66]) rfl (jl_aloadn gL650_0) ?_
                              refine jx_ar (pc' := 114) (st' := [.ref 66, .ref 66]) rfl rfl rfl rfl ?_
                              refine jr_get (pc' := 117) (i := 15) (v := .int (i32 (op2_617))) rfl rfl (by decide) (rFv_eq (by decide) (show G695 15 = op2_617 from ((hF701.1 15 rfl).trans (e626)))) rfl ?_
                              refine jx_ar (pc' := 118) (st' := [.int (i32 (1)), .int (i32 (op2_617)), .ref 66]) rfl rfl rfl rfl ?_
                              refine jx_sub (pc' := 119) rfl rfl ?_
                              refine jr_put (pc' := 122) (i := 15) (z := (op2_617 - 1)) rfl rfl (by decide) rfl rfl rfl rfl rfl rfl ?_
                              have hW718 : Wk (uG G695 15 ((op2_617 - 1))) A696 := Wk_g hW700 (show (-2147483648 : Int) ≤ (op2_617 - 1) by omega) (show (op2_617 - 1) ≤ (2147483647 : Int) by omega)
                              have hF719 := Fr_g (z := (op2_617 - 1)) (i := 15) hF708 (by decide)
                              refine jx_ld (pc' := 123) (l' := L650) (st' := [.ref 66]) rfl (jl_aloadn gL650_0) ?_
                              refine jx_ar (pc' := 125) (st' := [.int (i32 (7)), .ref 66]) rfl rfl rfl rfl ?_
                              refine jx_ld (pc' := 126) (l' := L650) (st' := [.int (i32 (r614)), .int (i32 (7)), .ref 66]) rfl (jl_iloadn gL650_1) ?_
                              refine jx_ar (pc' := 127) (st' := [.int (i32 (0)), .int (i32 (r614)), .int (i32 (7)), .ref 66]) rfl rfl rfl rfl ?_
                              refine jx_ar (pc' := 128) (st' := [.int (i32 (0)), .int (i32 (0)), .int (i32 (r614)), .int (i32 (7)), .ref 66]) rfl rfl rfl rfl ?_
                              refine jx_ar (pc' := 129) (st' := [.int (i32 (0)), .int (i32 (0)), .int (i32 (0)), .int (i32 (r614)), .int (i32 (7)), .ref 66]) rfl rfl rfl rfl ?_
                              refine jx_vr (pc' := 132) (as := [.int (i32 (7)), .int (i32 (r614)), .int (i32 (0)), .int (i32 (0)), .int (i32 (0))]) (st := []) rfl rfl rfl rfl ⟨rfl, rfl, Nat.le_of_ble_eq_true rfl⟩ rfl rfl (c_node (dd := d) (hd := by omega) (hW := hW718) (kind := 7) (a := r614) (b := 0) (c := 0) (e := 0) (nd := nd2_618) (e_nd := show (uG G695 15 ((op2_617 - 1))) 31 = nd2_618 from ((hF701.1 31 rfl).trans (e627)))  (h_kind := ⟨(by decide), (by decide)⟩) (h_a := ⟨(Int.le_trans (by decide : (-2147483648 : Int) ≤ -2147483648) b623.1), (Int.le_trans b623.2 (by decide : (2147483647 : Int) ≤ 2147483647))⟩) (h_b := ⟨(by decide), (by decide)⟩) (h_c := ⟨(by decide), (by decide)⟩) (h_e := ⟨(by decide), (by decide)⟩)  (p_0 := by omega) (p_1 := by omega)) (fun o V' hq => ?_)
                              obtain ⟨G720, A721, nd2_722, rfl, rfl, hW723, hF724, hQ725, e726, p727, -⟩ := hq
                              have hF729 := Fr_tr hF719 hF724 (Fr_sub (by decide)) (Fr_sub (by decide))
                              have hP730 := Pf_tr hP709 hQ725 (by omega)
                              have bnd2_722 : (0 : Int) ≤ nd2_722 ∧ nd2_722 ≤ 6999 := e726 ▸ hW723.1 31
                              refine .inr ⟨_, rfl, ?_⟩
                              refine jx_rt (v := some (.int (i32 (nd2_618)))) rfl rfl rfl rfl rfl rfl ?_
                              have z731 := tz_f (tk2_698)
                              exact ⟨_, _, _, at2_697, fk2_699, (op2_617 - 1), nd2_722, tk2_698, rfl, rfl, hW723, hF729, hP730, by omega, ((hF724.1 10 rfl).trans (e702)), ((hF724.1 16 rfl).trans (e704)), (hF724.1 15 rfl), (e726), ((hF724.1 11 rfl).trans (e703)), by omega, by omega, by omega, by omega, by omega, by omega, by first | exact Or.inl (⟨by omega, by omega, by omega, by omega, by omega, by omega⟩) | exact Or.inr (Or.inl (⟨by omega, by omega, by omega⟩)) | exact Or.inr (Or.inr ((⟨by omega, by omega, by omega⟩)))⟩
                            · have _q : True := trivial
                              exfalso
                              omega
                        · have _q : True := trivial
                          refine jx_ld (pc' := 102) (l' := jSto1 [(0, .ref 66)] 1 (.int (i32 (r614)))) (st' := []) rfl rfl ?_
                          obtain ⟨L732, eL732⟩ : ∃ q, q = jSto1 [(0, .ref 66)] 1 (.int (i32 (r614))) := ⟨_, rfl⟩
                          rw [← eL732]
                          have gL732_0 : jGet L732 0 = some (.ref 66) := eL732 ▸ jg_ne (by decide) (rfl : jGet [(0, .ref 66)] 0 = some (.ref 66)) rfl
                          have gL732_1 : jGet L732 1 = some (.int (i32 (r614))) := eL732 ▸ jg_eq
                          refine jx_ld (pc' := 103) (l' := L732) (st' := [.ref 66]) rfl (jl_aloadn gL732_0) ?_
                          refine jx_ld (pc' := 104) (l' := L732) (st' := [.ref 66, .ref 66]) rfl (jl_aloadn gL732_0) ?_
                          refine jx_ar (pc' := 106) (st' := [.int (i32 (41)), .ref 66, .ref 66]) rfl rfl rfl rfl ?_
                          have b733 : (-2147483648 : Int) ≤ G612 13 ∧ G612 13 ≤ 2147483647 := hW620.1 13
                          refine jx_vr (pc' := 109) (as := [.int (i32 (41))]) (st := [.ref 66]) rfl rfl rfl rfl ⟨rfl, rfl, Nat.le_of_ble_eq_true rfl⟩ rfl rfl (c_is (dd := d) (hd := by omega) (hW := hW620) (k := 41) (tk := tk2_619) (e_tk := show G612 11 = tk2_619 from (e628)) (tn := G612 13) (e_tn := show G612 13 = G612 13 from rfl)  (h_k := ⟨(by decide), (by decide)⟩)  ) (fun o V' hq => ?_)
                          obtain ⟨r734, rfl, rfl, b735, q736⟩ := hq
                          refine .inr ⟨_, rfl, ?_⟩
                          rcases q736 with ⟨rfl, a737, a738, a739⟩ | rfl
                          · have _q : True := trivial
                            refine jx_vr (pc' := 112) (as := [.int (i32 (1))]) (st := []) rfl rfl rfl rfl ⟨rfl, rfl, Nat.le_of_ble_eq_true rfl⟩ rfl rfl (c_need (dd := d) (hd := by omega) (hW := hW620) (g := 1) (ln := ln) (e_ln := show G612 9 = ln from ((hF621.1 9 rfl).trans ((hF475.1 9 rfl).trans ((hF315.1 9 rfl).trans (e_ln))))) (le := le) (e_le := show A613 4 (ln).toNat = le from (congrFun ((hF621.2 4 rfl).trans ((hF475.2 4 rfl).trans (hF315.2 4 rfl))) _).trans (e_le)) (at0 := at2_615) (e_at0 := show G612 10 = at2_615 from (e624)) (fk := fk2_616) (e_fk := show G612 16 = fk2_616 from (e625)) (tk0 := tk2_619) (e_tk0 := show G612 11 = tk2_619 from (e628))  (h_g := ⟨(by decide), (by decide)⟩)  (p_0 := by omega)) (fun o V' hq => ?_)
                            obtain ⟨G740, A741, at2_742, tk2_743, fk2_744, rfl, rfl, hW745, hF746, e747, e748, e749, p750, p751, q752⟩ := hq
                            have hF753 := Fr_tr hF636 hF746 (Fr_sub (by decide)) (Fr_sub (by decide))
                            have hP754 := Pf_f hP637 hF746 (by decide)
                            have bat2_742 : (0 : Int) ≤ at2_742 ∧ at2_742 ≤ 3002 := e747 ▸ hW745.1 10
                            have ztk2_743 := tz_b tk2_743
                            have btk2_743 : (0 : Int) ≤ tk2_743 ∧ tk2_743 ≤ 5 := e748 ▸ hW745.1 11
                            have bfk2_744 : (0 : Int) ≤ fk2_744 ∧ fk2_744 ≤ 6 := e749 ▸ hW745.1 16
                            refine .inl ⟨rfl, ?_⟩
                            rcases q752 with ⟨a755, a756, a757, a758⟩ | ⟨a759, a760, a761, a762⟩
                            · have _q : True := trivial
                              refine jx_ld (pc' := 113) (l' := L732) (st' := [.ref 66]) rfl (jl_aloadn gL732_0) ?_
                              refine jx_ar (pc' := 114) (st' := [.ref 66, .ref 66]) rfl rfl rfl rfl ?_
                              refine jr_get (pc' := 117) (i := 15) (v := .int (i32 (op2_617))) rfl rfl (by decide) (rFv_eq (by decide) (show G740 15 = op2_617 from ((hF746.1 15 rfl).trans (e626)))) rfl ?_
                              refine jx_ar (pc' := 118) (st' := [.int (i32 (1)), .int (i32 (op2_617)), .ref 66]) rfl rfl rfl rfl ?_
                              refine jx_sub (pc' := 119) rfl rfl ?_
                              refine jr_put (pc' := 122) (i := 15) (z := (op2_617 - 1)) rfl rfl (by decide) rfl rfl rfl rfl rfl rfl ?_
                              have hW763 : Wk (uG G740 15 ((op2_617 - 1))) A741 := Wk_g hW745 (show (-2147483648 : Int) ≤ (op2_617 - 1) by omega) (show (op2_617 - 1) ≤ (2147483647 : Int) by omega)
                              have hF764 := Fr_g (z := (op2_617 - 1)) (i := 15) hF753 (by decide)
                              refine jx_ld (pc' := 123) (l' := L732) (st' := [.ref 66]) rfl (jl_aloadn gL732_0) ?_
                              refine jx_ar (pc' := 125) (st' := [.int (i32 (7)), .ref 66]) rfl rfl rfl rfl ?_
                              refine jx_ld (pc' := 126) (l' := L732) (st' := [.int (i32 (r614)), .int (i32 (7)), .ref 66]) rfl (jl_iloadn gL732_1) ?_
                              refine jx_ar (pc' := 127) (st' := [.int (i32 (0)), .int (i32 (r614)), .int (i32 (7)), .ref 66]) rfl rfl rfl rfl ?_
                              refine jx_ar (pc' := 128) (st' := [.int (i32 (0)), .int (i32 (0)), .int (i32 (r614)), .int (i32 (7)), .ref 66]) rfl rfl rfl rfl ?_
                              refine jx_ar (pc' := 129) (st' := [.int (i32 (0)), .int (i32 (0)), .int (i32 (0)), .int (i32 (r614)), .int (i32 (7)), .ref 66]) rfl rfl rfl rfl ?_
                              refine jx_vr (pc' := 132) (as := [.int (i32 (7)), .int (i32 (r614)), .int (i32 (0)), .int (i32 (0)), .int (i32 (0))]) (st := []) rfl rfl rfl rfl ⟨rfl, rfl, Nat.le_of_ble_eq_true rfl⟩ rfl rfl (c_node (dd := d) (hd := by omega) (hW := hW763) (kind := 7) (a := r614) (b := 0) (c := 0) (e := 0) (nd := nd2_618) (e_nd := show (uG G740 15 ((op2_617 - 1))) 31 = nd2_618 from ((hF746.1 31 rfl).trans (e627)))  (h_kind := ⟨(by decide), (by decide)⟩) (h_a := ⟨(Int.le_trans (by decide : (-2147483648 : Int) ≤ -2147483648) b623.1), (Int.le_trans b623.2 (by decide : (2147483647 : Int) ≤ 2147483647))⟩) (h_b := ⟨(by decide), (by decide)⟩) (h_c := ⟨(by decide), (by decide)⟩) (h_e := ⟨(by decide), (by decide)⟩)  (p_0 := by omega) (p_1 := by omega)) (fun o V' hq => ?_)
                              obtain ⟨G765, A766, nd2_767, rfl, rfl, hW768, hF769, hQ770, e771, p772, -⟩ := hq
                              have hF774 := Fr_tr hF764 hF769 (Fr_sub (by decide)) (Fr_sub (by decide))
                              have hP775 := Pf_tr hP754 hQ770 (by omega)
                              have bnd2_767 : (0 : Int) ≤ nd2_767 ∧ nd2_767 ≤ 6999 := e771 ▸ hW768.1 31
                              refine .inr ⟨_, rfl, ?_⟩
                              refine jx_rt (v := some (.int (i32 (nd2_618)))) rfl rfl rfl rfl rfl rfl ?_
                              have z776 := tz_f (tk2_743)
                              exact ⟨_, _, _, at2_742, fk2_744, (op2_617 - 1), nd2_767, tk2_743, rfl, rfl, hW768, hF774, hP775, by omega, ((hF769.1 10 rfl).trans (e747)), ((hF769.1 16 rfl).trans (e749)), (hF769.1 15 rfl), (e771), ((hF769.1 11 rfl).trans (e748)), by omega, by omega, by omega, by omega, by omega, by omega, by first | exact Or.inl (⟨by omega, by omega, by omega, by omega, by omega, by omega⟩) | exact Or.inr (Or.inl (⟨by omega, by omega, by omega⟩)) | exact Or.inr (Or.inr ((⟨by omega, by omega, by omega⟩)))⟩
                            · have _q : True := trivial
                              refine jx_ld (pc' := 113) (l' := L732) (st' := [.ref 66]) rfl (jl_aloadn gL732_0) ?_
                              refine jx_ar (pc' := 114) (st' := [.ref 66, .ref 66]) rfl rfl rfl rfl ?_
                              refine jr_get (pc' := 117) (i := 15) (v := .int (i32 (op2_617))) rfl rfl (by decide) (rFv_eq (by decide) (show G740 15 = op2_617 from ((hF746.1 15 rfl).trans (e626)))) rfl ?_
                              refine jx_ar (pc' := 118) (st' := [.int (i32 (1)), .int (i32 (op2_617)), .ref 66]) rfl rfl rfl rfl ?_
                              refine jx_sub (pc' := 119) rfl rfl ?_
                              refine jr_put (pc' := 122) (i := 15) (z := (op2_617 - 1)) rfl rfl (by decide) rfl rfl rfl rfl rfl rfl ?_
                              have hW777 : Wk (uG G740 15 ((op2_617 - 1))) A741 := Wk_g hW745 (show (-2147483648 : Int) ≤ (op2_617 - 1) by omega) (show (op2_617 - 1) ≤ (2147483647 : Int) by omega)
                              have hF778 := Fr_g (z := (op2_617 - 1)) (i := 15) hF753 (by decide)
                              refine jx_ld (pc' := 123) (l' := L732) (st' := [.ref 66]) rfl (jl_aloadn gL732_0) ?_
                              refine jx_ar (pc' := 125) (st' := [.int (i32 (7)), .ref 66]) rfl rfl rfl rfl ?_
                              refine jx_ld (pc' := 126) (l' := L732) (st' := [.int (i32 (r614)), .int (i32 (7)), .ref 66]) rfl (jl_iloadn gL732_1) ?_
                              refine jx_ar (pc' := 127) (st' := [.int (i32 (0)), .int (i32 (r614)), .int (i32 (7)), .ref 66]) rfl rfl rfl rfl ?_
                              refine jx_ar (pc' := 128) (st' := [.int (i32 (0)), .int (i32 (0)), .int (i32 (r614)), .int (i32 (7)), .ref 66]) rfl rfl rfl rfl ?_
                              refine jx_ar (pc' := 129) (st' := [.int (i32 (0)), .int (i32 (0)), .int (i32 (0)), .int (i32 (r614)), .int (i32 (7)), .ref 66]) rfl rfl rfl rfl ?_
                              refine jx_vr (pc' := 132) (as := [.int (i32 (7)), .int (i32 (r614)), .int (i32 (0)), .int (i32 (0)), .int (i32 (0))]) (st := []) rfl rfl rfl rfl ⟨rfl, rfl, Nat.le_of_ble_eq_true rfl⟩ rfl rfl (c_node (dd := d) (hd := by omega) (hW := hW777) (kind := 7) (a := r614) (b := 0) (c := 0) (e := 0) (nd := nd2_618) (e_nd := show (uG G740 15 ((op2_617 - 1))) 31 = nd2_618 from ((hF746.1 31 rfl).trans (e627)))  (h_kind := ⟨(by decide), (by decide)⟩) (h_a := ⟨(Int.le_trans (by decide : (-2147483648 : Int) ≤ -2147483648) b623.1), (Int.le_trans b623.2 (by decide : (2147483647 : Int) ≤ 2147483647))⟩) (h_b := ⟨(by decide), (by decide)⟩) (h_c := ⟨(by decide), (by decide)⟩) (h_e := ⟨(by decide), (by decide)⟩)  (p_0 := by omega) (p_1 := by omega)) (fun o V' hq => ?_)
                              obtain ⟨G779, A780, nd2_781, rfl, rfl, hW782, hF783, hQ784, e785, p786, -⟩ := hq
                              have hF788 := Fr_tr hF778 hF783 (Fr_sub (by decide)) (Fr_sub (by decide))
                              have hP789 := Pf_tr hP754 hQ784 (by omega)
                              have bnd2_781 : (0 : Int) ≤ nd2_781 ∧ nd2_781 ≤ 6999 := e785 ▸ hW782.1 31
                              refine .inr ⟨_, rfl, ?_⟩
                              refine jx_rt (v := some (.int (i32 (nd2_618)))) rfl rfl rfl rfl rfl rfl ?_
                              have z790 := tz_f (tk2_743)
                              exact ⟨_, _, _, at2_742, fk2_744, (op2_617 - 1), nd2_781, tk2_743, rfl, rfl, hW782, hF788, hP789, by omega, ((hF783.1 10 rfl).trans (e747)), ((hF783.1 16 rfl).trans (e749)), (hF783.1 15 rfl), (e785), ((hF783.1 11 rfl).trans (e748)), by omega, by omega, by omega, by omega, by omega, by omega, by first | exact Or.inl (⟨by omega, by omega, by omega, by omega, by omega, by omega⟩) | exact Or.inr (Or.inl (⟨by omega, by omega, by omega⟩)) | exact Or.inr (Or.inr ((⟨by omega, by omega, by omega⟩)))⟩
                          · have _q : True := trivial
                            refine jx_vr (pc' := 112) (as := [.int (i32 (0))]) (st := []) rfl rfl rfl rfl ⟨rfl, rfl, Nat.le_of_ble_eq_true rfl⟩ rfl rfl (c_need (dd := d) (hd := by omega) (hW := hW620) (g := 0) (ln := ln) (e_ln := show G612 9 = ln from ((hF621.1 9 rfl).trans ((hF475.1 9 rfl).trans ((hF315.1 9 rfl).trans (e_ln))))) (le := le) (e_le := show A613 4 (ln).toNat = le from (congrFun ((hF621.2 4 rfl).trans ((hF475.2 4 rfl).trans (hF315.2 4 rfl))) _).trans (e_le)) (at0 := at2_615) (e_at0 := show G612 10 = at2_615 from (e624)) (fk := fk2_616) (e_fk := show G612 16 = fk2_616 from (e625)) (tk0 := tk2_619) (e_tk0 := show G612 11 = tk2_619 from (e628))  (h_g := ⟨(by decide), (by decide)⟩)  (p_0 := by omega)) (fun o V' hq => ?_)
                            obtain ⟨G791, A792, at2_793, tk2_794, fk2_795, rfl, rfl, hW796, hF797, e798, e799, e800, p801, p802, q803⟩ := hq
                            have hF804 := Fr_tr hF636 hF797 (Fr_sub (by decide)) (Fr_sub (by decide))
                            have hP805 := Pf_f hP637 hF797 (by decide)
                            have bat2_793 : (0 : Int) ≤ at2_793 ∧ at2_793 ≤ 3002 := e798 ▸ hW796.1 10
                            have ztk2_794 := tz_b tk2_794
                            have btk2_794 : (0 : Int) ≤ tk2_794 ∧ tk2_794 ≤ 5 := e799 ▸ hW796.1 11
                            have bfk2_795 : (0 : Int) ≤ fk2_795 ∧ fk2_795 ≤ 6 := e800 ▸ hW796.1 16
                            refine .inl ⟨rfl, ?_⟩
                            rcases q803 with ⟨a806, a807, a808, a809⟩ | ⟨a810, a811, a812, a813⟩
                            · have _q : True := trivial
                              refine jx_ld (pc' := 113) (l' := L732) (st' := [.ref 66]) rfl (jl_aloadn gL732_0) ?_
                              refine jx_ar (pc' := 114) (st' := [.ref 66, .ref 66]) rfl rfl rfl rfl ?_
                              refine jr_get (pc' := 117) (i := 15) (v := .int (i32 (op2_617))) rfl rfl (by decide) (rFv_eq (by decide) (show G791 15 = op2_617 from ((hF797.1 15 rfl).trans (e626)))) rfl ?_
                              refine jx_ar (pc' := 118) (st' := [.int (i32 (1)), .int (i32 (op2_617)), .ref 66]) rfl rfl rfl rfl ?_
                              refine jx_sub (pc' := 119) rfl rfl ?_
                              refine jr_put (pc' := 122) (i := 15) (z := (op2_617 - 1)) rfl rfl (by decide) rfl rfl rfl rfl rfl rfl ?_
                              have hW814 : Wk (uG G791 15 ((op2_617 - 1))) A792 := Wk_g hW796 (show (-2147483648 : Int) ≤ (op2_617 - 1) by omega) (show (op2_617 - 1) ≤ (2147483647 : Int) by omega)
                              have hF815 := Fr_g (z := (op2_617 - 1)) (i := 15) hF804 (by decide)
                              refine jx_ld (pc' := 123) (l' := L732) (st' := [.ref 66]) rfl (jl_aloadn gL732_0) ?_
                              refine jx_ar (pc' := 125) (st' := [.int (i32 (7)), .ref 66]) rfl rfl rfl rfl ?_
                              refine jx_ld (pc' := 126) (l' := L732) (st' := [.int (i32 (r614)), .int (i32 (7)), .ref 66]) rfl (jl_iloadn gL732_1) ?_
                              refine jx_ar (pc' := 127) (st' := [.int (i32 (0)), .int (i32 (r614)), .int (i32 (7)), .ref 66]) rfl rfl rfl rfl ?_
                              refine jx_ar (pc' := 128) (st' := [.int (i32 (0)), .int (i32 (0)), .int (i32 (r614)), .int (i32 (7)), .ref 66]) rfl rfl rfl rfl ?_
                              refine jx_ar (pc' := 129) (st' := [.int (i32 (0)), .int (i32 (0)), .int (i32 (0)), .int (i32 (r614)), .int (i32 (7)), .ref 66]) rfl rfl rfl rfl ?_
                              refine jx_vr (pc' := 132) (as := [.int (i32 (7)), .int (i32 (r614)), .int (i32 (0)), .int (i32 (0)), .int (i32 (0))]) (st := []) rfl rfl rfl rfl ⟨rfl, rfl, Nat.le_of_ble_eq_true rfl⟩ rfl rfl (c_node (dd := d) (hd := by omega) (hW := hW814) (kind := 7) (a := r614) (b := 0) (c := 0) (e := 0) (nd := nd2_618) (e_nd := show (uG G791 15 ((op2_617 - 1))) 31 = nd2_618 from ((hF797.1 31 rfl).trans (e627)))  (h_kind := ⟨(by decide), (by decide)⟩) (h_a := ⟨(Int.le_trans (by decide : (-2147483648 : Int) ≤ -2147483648) b623.1), (Int.le_trans b623.2 (by decide : (2147483647 : Int) ≤ 2147483647))⟩) (h_b := ⟨(by decide), (by decide)⟩) (h_c := ⟨(by decide), (by decide)⟩) (h_e := ⟨(by decide), (by decide)⟩)  (p_0 := by omega) (p_1 := by omega)) (fun o V' hq => ?_)
                              obtain ⟨G816, A817, nd2_818, rfl, rfl, hW819, hF820, hQ821, e822, p823, -⟩ := hq
                              have hF825 := Fr_tr hF815 hF820 (Fr_sub (by decide)) (Fr_sub (by decide))
                              have hP826 := Pf_tr hP805 hQ821 (by omega)
                              have bnd2_818 : (0 : Int) ≤ nd2_818 ∧ nd2_818 ≤ 6999 := e822 ▸ hW819.1 31
                              refine .inr ⟨_, rfl, ?_⟩
                              refine jx_rt (v := some (.int (i32 (nd2_618)))) rfl rfl rfl rfl rfl rfl ?_
                              have z827 := tz_f (tk2_794)
                              exact ⟨_, _, _, at2_793, fk2_795, (op2_617 - 1), nd2_818, tk2_794, rfl, rfl, hW819, hF825, hP826, by omega, ((hF820.1 10 rfl).trans (e798)), ((hF820.1 16 rfl).trans (e800)), (hF820.1 15 rfl), (e822), ((hF820.1 11 rfl).trans (e799)), by omega, by omega, by omega, by omega, by omega, by omega, by first | exact Or.inl (⟨by omega, by omega, by omega, by omega, by omega, by omega⟩) | exact Or.inr (Or.inl (⟨by omega, by omega, by omega⟩)) | exact Or.inr (Or.inr ((⟨by omega, by omega, by omega⟩)))⟩
                            · have _q : True := trivial
                              exfalso
                              omega
                · have _q : True := trivial
                  refine jx_if_eq (pc' := 88) (tg := 133) rfl rfl rfl (by decide) (by decide) (fun h828 => ?_) (fun h828 => ?_)
                  · have _q := h828
                    refine jx_ld (pc' := 134) (l' := [(0, .ref 66)]) (st' := [.ref 66]) rfl (jl_aloadn rfl) ?_
                    have z829 := tz_f (tk0)
                    refine jr_get (pc' := 137) (i := 11) (v := .int (i32 (tk0))) rfl rfl (by decide) (rFv_eq (by decide) (show G 11 = tk0 from (e_tk0))) rfl ?_
                    refine jx_ar (pc' := 138) (st' := [.int (i32 (1)), .int (i32 (tk0))]) rfl rfl rfl rfl ?_
                    refine jx_icmp_eq (pc' := 141) (tg := 152) rfl rfl rfl (Int.le_trans (by decide : (-2147483648 : Int) ≤ 0) b_tk0.1) (Int.le_trans b_tk0.2 (by decide : (5 : Int) ≤ 2147483647)) (by decide) (by decide) (fun h830 => ?_) (fun h830 => ?_)
                    · have _q := h830
                      refine jx_ld (pc' := 153) (l' := [(0, .ref 66)]) (st' := [.ref 66]) rfl (jl_aloadn rfl) ?_
                      have b831 : (-3000 : Int) ≤ G 12 ∧ G 12 ≤ 3002 := hW.1 12
                      refine jr_get (pc' := 156) (i := 12) (v := .int (i32 (G 12))) rfl rfl (by decide) rfl rfl ?_
                      refine jx_ld (pc' := 157) (l' := jSto1 [(0, .ref 66)] 1 (.int (i32 (G 12)))) (st' := []) rfl rfl ?_
                      obtain ⟨L832, eL832⟩ : ∃ q, q = jSto1 [(0, .ref 66)] 1 (.int (i32 (G 12))) := ⟨_, rfl⟩
                      rw [← eL832]
                      have gL832_0 : jGet L832 0 = some (.ref 66) := eL832 ▸ jg_ne (by decide) (rfl : jGet [(0, .ref 66)] 0 = some (.ref 66)) rfl
                      have gL832_1 : jGet L832 1 = some (.int (i32 (G 12))) := eL832 ▸ jg_eq
                      refine jx_ld (pc' := 158) (l' := L832) (st' := [.ref 66]) rfl (jl_aloadn gL832_0) ?_
                      refine jx_vr (pc' := 161) (as := []) (st := []) rfl rfl rfl rfl ⟨rfl, rfl, Nat.le_of_ble_eq_true rfl⟩ rfl rfl (c_lookUp (dd := d) (hd := by omega) (hW := hW)  (fk := fk) (e_fk := show G 16 = fk from (e_fk))    ) (fun o V' hq => ?_)
                      obtain ⟨G833, A834, r835, fk2_836, rfl, rfl, hW837, hF838, b839, e840, q841⟩ := hq
                      have hF842 := Fr_tr hF0 hF838 (Fr_sub (by decide)) (Fr_sub (by decide))
                      have hP843 := Pf_f hP0 hF838 (by decide)
                      have bfk2_836 : (0 : Int) ≤ fk2_836 ∧ fk2_836 ≤ 6 := e840 ▸ hW837.1 16
                      refine .inr ⟨_, rfl, ?_⟩
                      rcases q841 with ⟨a844, a845⟩ | ⟨a846, a847, a848⟩
                      · have _q : True := trivial
                        refine jx_ld (pc' := 162) (l' := jSto1 L832 2 (.int (i32 (r835)))) (st' := []) rfl rfl ?_
                        obtain ⟨L849, eL849⟩ : ∃ q, q = jSto1 L832 2 (.int (i32 (r835))) := ⟨_, rfl⟩
                        rw [← eL849]
                        have gL849_0 : jGet L849 0 = some (.ref 66) := eL849 ▸ jg_ne (by decide) gL832_0 rfl
                        have gL849_1 : jGet L849 1 = some (.int (i32 (G 12))) := eL849 ▸ jg_ne (by decide) gL832_1 rfl
                        have gL849_2 : jGet L849 2 = some (.int (i32 (r835))) := eL849 ▸ jg_eq
                        refine jx_ld (pc' := 163) (l' := L849) (st' := [.ref 66]) rfl (jl_aloadn gL849_0) ?_
                        refine jx_vr (pc' := 166) (as := []) (st := []) rfl rfl rfl rfl ⟨rfl, rfl, Nat.le_of_ble_eq_true rfl⟩ rfl rfl (c_bad (dd := d) (hd := by omega) (hW := hW837)  (fk := fk2_836) (e_fk := show G833 16 = fk2_836 from (e840))    ) (fun o V' hq => ?_)
                        obtain ⟨r850, rfl, rfl, b851, q852⟩ := hq
                        refine .inr ⟨_, rfl, ?_⟩
                        rcases q852 with ⟨rfl, a853⟩ | ⟨rfl, a854⟩
                        · have _q : True := trivial
                          refine jx_if_eq (pc' := 169) (tg := 171) rfl rfl rfl (by decide) (by decide) (fun h855 => ?_) (fun h855 => ?_)
                          · have _q := h855
                            exact absurd h855 (by omega)
                          · have _q := h855
                            refine jx_ar (pc' := 170) (st' := [.int (i32 (0))]) rfl rfl rfl rfl ?_
                            refine jx_rt (v := some (.int (i32 (0)))) rfl rfl rfl rfl rfl rfl ?_
                            have z856 := tz_f (tk0)
                            exact ⟨_, _, _, at0, fk2_836, op0, nd, tk0, rfl, rfl, hW837, hF842, hP843, by omega, ((hF838.1 10 rfl).trans (e_at0)), (e840), ((hF838.1 15 rfl).trans (e_op0)), ((hF838.1 31 rfl).trans (e_nd)), ((hF838.1 11 rfl).trans (e_tk0)), by omega, by omega, by omega, by omega, by omega, by omega, by first | exact Or.inl (⟨by omega, by omega, by omega, by omega, by omega, by omega⟩) | exact Or.inr (Or.inl (⟨by omega, by omega, by omega⟩)) | exact Or.inr (Or.inr ((⟨by omega, by omega, by omega⟩)))⟩
                        · have _q : True := trivial
                          exfalso
                          omega
                      · have _q : True := trivial
                        refine jx_ld (pc' := 162) (l' := jSto1 L832 2 (.int (i32 (r835)))) (st' := []) rfl rfl ?_
                        obtain ⟨L857, eL857⟩ : ∃ q, q = jSto1 L832 2 (.int (i32 (r835))) := ⟨_, rfl⟩
                        rw [← eL857]
                        have gL857_0 : jGet L857 0 = some (.ref 66) := eL857 ▸ jg_ne (by decide) gL832_0 rfl
                        have gL857_1 : jGet L857 1 = some (.int (i32 (G 12))) := eL857 ▸ jg_ne (by decide) gL832_1 rfl
                        have gL857_2 : jGet L857 2 = some (.int (i32 (r835))) := eL857 ▸ jg_eq
                        refine jx_ld (pc' := 163) (l' := L857) (st' := [.ref 66]) rfl (jl_aloadn gL857_0) ?_
                        refine jx_vr (pc' := 166) (as := []) (st := []) rfl rfl rfl rfl ⟨rfl, rfl, Nat.le_of_ble_eq_true rfl⟩ rfl rfl (c_bad (dd := d) (hd := by omega) (hW := hW837)  (fk := fk2_836) (e_fk := show G833 16 = fk2_836 from (e840))    ) (fun o V' hq => ?_)
                        obtain ⟨r858, rfl, rfl, b859, q860⟩ := hq
                        refine .inr ⟨_, rfl, ?_⟩
                        rcases q860 with ⟨rfl, a861⟩ | ⟨rfl, a862⟩
                        · have _q : True := trivial
                          exfalso
                          omega
                        · have _q : True := trivial
                          refine jx_if_eq (pc' := 169) (tg := 171) rfl rfl rfl (by decide) (by decide) (fun h863 => ?_) (fun h863 => ?_)
                          · have _q := h863
                            refine jx_ld (pc' := 172) (l' := L857) (st' := [.ref 66]) rfl (jl_aloadn gL857_0) ?_
                            refine jx_vr (pc' := 175) (as := []) (st := []) rfl rfl rfl rfl ⟨rfl, rfl, Nat.le_of_ble_eq_true rfl⟩ rfl rfl (c_next (dd := d) (hd := by omega) (hW := hW837)  (ln := ln) (e_ln := show G833 9 = ln from ((hF838.1 9 rfl).trans (e_ln))) (le := le) (e_le := show A834 4 (ln).toNat = le from (congrFun (hF838.2 4 rfl) _).trans (e_le)) (at0 := at0) (e_at0 := show G833 10 = at0 from ((hF838.1 10 rfl).trans (e_at0)))    (p_0 := by omega)) (fun o V' hq => ?_)
                            obtain ⟨G864, A865, at2_866, tk2_867, rfl, rfl, hW868, hF869, e870, e871, p872, p873, p874, -⟩ := hq
                            have hF876 := Fr_tr hF842 hF869 (Fr_sub (by decide)) (Fr_sub (by decide))
                            have hP877 := Pf_f hP843 hF869 (by decide)
                            have bat2_866 : (0 : Int) ≤ at2_866 ∧ at2_866 ≤ 3002 := e870 ▸ hW868.1 10
                            have ztk2_867 := tz_b tk2_867
                            have btk2_867 : (0 : Int) ≤ tk2_867 ∧ tk2_867 ≤ 5 := e871 ▸ hW868.1 11
                            refine .inl ⟨rfl, ?_⟩
                            refine jx_ld (pc' := 176) (l' := L857) (st' := [.ref 66]) rfl (jl_aloadn gL857_0) ?_
                            refine jx_ld (pc' := 177) (l' := L857) (st' := [.int (i32 (r835)), .ref 66]) rfl (jl_iloadn gL857_2) ?_
                            refine jx_ld (pc' := 178) (l' := L857) (st' := [.int (i32 (G 12)), .int (i32 (r835)), .ref 66]) rfl (jl_iloadn gL857_1) ?_
                            refine jx_vr (pc' := 181) (as := [.int (i32 (r835)), .int (i32 (G 12))]) (st := []) rfl rfl rfl rfl ⟨rfl, rfl, Nat.le_of_ble_eq_true rfl⟩ rfl rfl (c_readValue (dd := d) (hE := hE) (hd := by omega) (hW := hW868) (s := r835) (place := G 12) (ln := ln) (e_ln := show G864 9 = ln from ((hF869.1 9 rfl).trans ((hF838.1 9 rfl).trans (e_ln)))) (le := le) (e_le := show A865 4 (ln).toNat = le from (congrFun ((hF869.2 4 rfl).trans (hF838.2 4 rfl)) _).trans (e_le)) (at0 := at2_866) (e_at0 := show G864 10 = at2_866 from (e870)) (fk := fk2_836) (e_fk := show G864 16 = fk2_836 from ((hF869.1 16 rfl).trans (e840))) (op0 := op0) (e_op0 := show G864 15 = op0 from ((hF869.1 15 rfl).trans ((hF838.1 15 rfl).trans (e_op0)))) (nd := nd) (e_nd := show G864 31 = nd from ((hF869.1 31 rfl).trans ((hF838.1 31 rfl).trans (e_nd)))) (tk0 := tk2_867) (e_tk0 := show G864 11 = tk2_867 from (e871))  (h_s := ⟨(Int.le_trans (by decide : (-2147483648 : Int) ≤ -2147483648) b839.1), (Int.le_trans b839.2 (by decide : (2147483647 : Int) ≤ 2147483647))⟩) (h_place := ⟨(Int.le_trans (by decide : (-2147483648 : Int) ≤ -3000) b831.1), (Int.le_trans b831.2 (by decide : (3002 : Int) ≤ 2147483647))⟩)  (p_0 := by omega) (p_1 := by omega) (p_2 := by omega) (p_3 := by omega) (p_4 := by omega) (p_5 := by omega) (p_6 := by omega) (p_7 := by omega) (p_8 := by omega) (p_9 := by omega)) (fun o V' hq => ?_)
                            obtain ⟨G878, A879, r880, at2_881, fk2_882, op2_883, nd2_884, tk2_885, rfl, rfl, hW886, hF887, hQ888, b889, e890, e891, e892, e893, e894, p895, p896, p897, p898, p899, p900, q901⟩ := hq
                            have hF902 := Fr_tr hF876 hF887 (Fr_sub (by decide)) (Fr_sub (by decide))
                            have hP903 := Pf_tr hP877 hQ888 (by omega)
                            have bat2_881 : (0 : Int) ≤ at2_881 ∧ at2_881 ≤ 3002 := e890 ▸ hW886.1 10
                            have bfk2_882 : (0 : Int) ≤ fk2_882 ∧ fk2_882 ≤ 6 := e891 ▸ hW886.1 16
                            have bop2_883 : (-2147483648 : Int) ≤ op2_883 ∧ op2_883 ≤ 2147483647 := e892 ▸ hW886.1 15
                            have bnd2_884 : (0 : Int) ≤ nd2_884 ∧ nd2_884 ≤ 6999 := e893 ▸ hW886.1 31
                            have ztk2_885 := tz_b tk2_885
                            have btk2_885 : (0 : Int) ≤ tk2_885 ∧ tk2_885 ≤ 5 := e894 ▸ hW886.1 11
                            refine .inr ⟨_, rfl, ?_⟩
                            rcases q901 with ⟨a904, a905, a906⟩ | ⟨a907, a908, a909⟩
                            · have _q : True := trivial
                              refine jx_rt (v := some (.int (i32 (r880)))) rfl rfl rfl rfl rfl rfl ?_
                              have z910 := tz_f (tk2_885)
                              exact ⟨_, _, _, at2_881, fk2_882, op2_883, nd2_884, tk2_885, rfl, rfl, hW886, hF902, hP903, by omega, (e890), (e891), (e892), (e893), (e894), by omega, by omega, by omega, by omega, by omega, by omega, by first | exact Or.inl (⟨by omega, by omega, by omega, by omega, by omega, by omega⟩) | exact Or.inr (Or.inl (⟨by omega, by omega, by omega⟩)) | exact Or.inr (Or.inr ((⟨by omega, by omega, by omega⟩)))⟩
                            · have _q : True := trivial
                              refine jx_rt (v := some (.int (i32 (r880)))) rfl rfl rfl rfl rfl rfl ?_
                              have z911 := tz_f (tk2_885)
                              exact ⟨_, _, _, at2_881, fk2_882, op2_883, nd2_884, tk2_885, rfl, rfl, hW886, hF902, hP903, by omega, (e890), (e891), (e892), (e893), (e894), by omega, by omega, by omega, by omega, by omega, by omega, by first | exact Or.inl (⟨by omega, by omega, by omega, by omega, by omega, by omega⟩) | exact Or.inr (Or.inl (⟨by omega, by omega, by omega⟩)) | exact Or.inr (Or.inr ((⟨by omega, by omega, by omega⟩)))⟩
                          · have _q := h863
                            exact absurd h863 (by omega)
                    · have _q := h830
                      refine jx_ld (pc' := 142) (l' := [(0, .ref 66)]) (st' := [.ref 66]) rfl (jl_aloadn rfl) ?_
                      refine jx_ar (pc' := 143) (st' := [.int (i32 (1)), .ref 66]) rfl rfl rfl rfl ?_
                      refine jx_ld (pc' := 144) (l' := [(0, .ref 66)]) (st' := [.ref 66, .int (i32 (1)), .ref 66]) rfl (jl_aloadn rfl) ?_
                      have b912 : (-3000 : Int) ≤ G 12 ∧ G 12 ≤ 3002 := hW.1 12
                      refine jr_get (pc' := 147) (i := 12) (v := .int (i32 (G 12))) rfl rfl (by decide) rfl rfl ?_
                      refine jx_vr (pc' := 150) (as := [.int (i32 (1)), .int (i32 (G 12))]) (st := []) rfl rfl rfl rfl ⟨rfl, rfl, Nat.le_of_ble_eq_true rfl⟩ rfl rfl (c_fail (dd := d) (hd := by omega) (hW := hW) (kind := 1) (place := G 12) (fk := fk) (e_fk := show G 16 = fk from (e_fk))  (h_kind := ⟨(by decide), (by decide)⟩) (h_place := ⟨(Int.le_trans (by decide : (-2147483648 : Int) ≤ -3000) b912.1), (Int.le_trans b912.2 (by decide : (3002 : Int) ≤ 2147483647))⟩)  (p_0 := by omega) (p_1 := by omega)) (fun o V' hq => ?_)
                      obtain ⟨G913, A914, fk2_915, rfl, rfl, hW916, hF917, e918, p919, -⟩ := hq
                      have hF921 := Fr_tr hF0 hF917 (Fr_sub (by decide)) (Fr_sub (by decide))
                      have hP922 := Pf_f hP0 hF917 (by decide)
                      have bfk2_915 : (0 : Int) ≤ fk2_915 ∧ fk2_915 ≤ 6 := e918 ▸ hW916.1 16
                      refine .inl ⟨rfl, ?_⟩
                      refine jx_ar (pc' := 151) (st' := [.int (i32 (0))]) rfl rfl rfl rfl ?_
                      refine jx_rt (v := some (.int (i32 (0)))) rfl rfl rfl rfl rfl rfl ?_
                      have z923 := tz_f (tk0)
                      exact ⟨_, _, _, at0, fk2_915, op0, nd, tk0, rfl, rfl, hW916, hF921, hP922, by omega, ((hF917.1 10 rfl).trans (e_at0)), (e918), ((hF917.1 15 rfl).trans (e_op0)), ((hF917.1 31 rfl).trans (e_nd)), ((hF917.1 11 rfl).trans (e_tk0)), by omega, by omega, by omega, by omega, by omega, by omega, by first | exact Or.inl (⟨by omega, by omega, by omega, by omega, by omega, by omega⟩) | exact Or.inr (Or.inl (⟨by omega, by omega, by omega⟩)) | exact Or.inr (Or.inr ((⟨by omega, by omega, by omega⟩)))⟩
                  · have _q := h828
                    exact absurd h828 (by omega)
              · have _q := h302
                exact absurd h302 (by omega)
    · have _q := h8
      exact absurd h8 (by omega)
set_option maxRecDepth 20000 in
set_option maxHeartbeats 4000000 in
theorem c_readRest {X : jX} {k : Nat} (hE : RE X k) {dd : Nat} {c0 c1 : jC} {G : Nat → Int} {A : Nat → Nat → Int} {T : jH} {x : Int} {ln le at0 fk op0 nd tk0 : Int} (hd : 6 * k + 15 ≤ dd) (hW : Wk G A) (e_ln : G 9 = ln) (e_le : A 4 (ln).toNat = le) (e_at0 : G 10 = at0) (e_fk : G 16 = fk) (e_op0 : G 15 = op0) (e_nd : G 31 = nd) (e_tk0 : G 11 = tk0) (h_x : (-2147483648 : Int) ≤ x ∧ x ≤ 2147483647) (p_0 : 0 ≤ op0) (p_1 : op0 ≤ 9) (p_2 : op0 ≤ 8 ∨ 1 ≤ fk) (p_3 : 9 - op0 ≤ ((k + 1 : Nat) : Int) ∨ 1 ≤ fk) (p_4 : nd ≤ 2 * at0 - tz tk0 + 51) (p_5 : at0 ≤ le) (p_6 : nd ≤ 2 * at0 - tz tk0 + 50 ∨ 1 ≤ fk) (p_7 : 0 ≤ x ∧ x ≤ nd) : wk X dd 287 [.ref 66, .int (i32 x)] (rV c0 c1 G A T) (fun o V' => ∃ (G' : Nat → Int) (A' : Nat → Nat → Int) (r : Int) (at2 : Int) (fk2 : Int) (op2 : Int) (nd2 : Int) (tk2 : Int), V' = rV c0 c1 G' A' T ∧ o = .inl (some (.int (i32 r))) ∧ Wk G' A' ∧ Fr [10, 11, 12, 13, 14, 15, 16, 17, 18, 31] [15, 16, 17, 18, 19, 20, 21, 22, 24, 28] G A G' A' ∧ Pf nd A A' ∧ ((-2147483648 : Int) ≤ r ∧ r ≤ 2147483647) ∧ G' 10 = at2 ∧ G' 16 = fk2 ∧ G' 15 = op2 ∧ G' 31 = nd2 ∧ G' 11 = tk2 ∧ (at0 ≤ at2) ∧ (at2 ≤ le) ∧ (nd ≤ nd2) ∧ (op2 = op0) ∧ (0 ≤ r) ∧ (r ≤ nd2) ∧ (((1 ≤ fk) ∧ (1 ≤ fk2) ∧ (nd2 = nd) ∧ (at2 = at0) ∧ (tk2 = tk0) ∧ (tz tk2 = tz tk0)) ∨ ((fk = 0) ∧ (1 ≤ fk2) ∧ (nd2 - nd ≤ (2 * at2 - tz tk2) - (2 * at0 - tz tk0) + 1)) ∨ ((fk = 0) ∧ (fk2 = 0) ∧ (nd2 - nd ≤ (2 * at2 - tz tk2) - (2 * at0 - tz tk0))))) := by
  obtain ⟨d, rfl⟩ : ∃ d, dd = d + 1 := ⟨dd - 1, by omega⟩
  refine wk_of (e := jm287) rfl (Nat.le_of_ble_eq_true rfl) ?_
  show wj X d jm287 (0, [(0, .ref 66), (1, .int (i32 (x)))], [], rV c0 c1 G A T) _
  have hF0 : Fr [10, 11, 12, 13, 14, 15, 16, 17, 18, 31] [15, 16, 17, 18, 19, 20, 21, 22, 24, 28] G A G A := Fr_rf
  have hP0 : Pf nd A A := Pf_rf
  have b_ln : (0 : Int) ≤ ln ∧ ln ≤ 3000 := e_ln ▸ hW.1 9
  have b_le : (0 : Int) ≤ le ∧ le ≤ 3000 := e_le ▸ hW.2 4 _
  have b_at0 : (0 : Int) ≤ at0 ∧ at0 ≤ 3002 := e_at0 ▸ hW.1 10
  have b_fk : (0 : Int) ≤ fk ∧ fk ≤ 6 := e_fk ▸ hW.1 16
  have b_op0 : (-2147483648 : Int) ≤ op0 ∧ op0 ≤ 2147483647 := e_op0 ▸ hW.1 15
  have b_nd : (0 : Int) ≤ nd ∧ nd ≤ 6999 := e_nd ▸ hW.1 31
  have z_tk0 := tz_f tk0
  have b_tk0 : (0 : Int) ≤ tk0 ∧ tk0 ≤ 5 := e_tk0 ▸ hW.1 11
  refine jx_ld (pc' := 1) (l' := [(0, .ref 66), (1, .int (i32 (x)))]) (st' := [.ref 66]) rfl (jl_aloadn rfl) ?_
  refine jx_vr (pc' := 4) (as := []) (st := []) rfl rfl rfl rfl ⟨rfl, rfl, Nat.le_of_ble_eq_true rfl⟩ rfl rfl (c_bad (dd := d) (hd := by omega) (hW := hW)  (fk := fk) (e_fk := show G 16 = fk from (e_fk))    ) (fun o V' hq => ?_)
  obtain ⟨r1, rfl, rfl, b2, q3⟩ := hq
  refine .inr ⟨_, rfl, ?_⟩
  rcases q3 with ⟨rfl, a4⟩ | ⟨rfl, a5⟩
  · have _q : True := trivial
    refine jx_if_eq (pc' := 7) (tg := 11) rfl rfl rfl (by decide) (by decide) (fun h6 => ?_) (fun h6 => ?_)
    · have _q := h6
      exact absurd h6 (by omega)
    · have _q := h6
      refine jx_ar (pc' := 8) (st' := [.int (i32 (0))]) rfl rfl rfl rfl ?_
      refine jx_go (tg := 15) rfl rfl ?_
      refine jx_ld (pc' := 16) (l' := jSto1 [(0, .ref 66), (1, .int (i32 (x)))] 2 (.int (i32 (0)))) (st' := []) rfl rfl ?_
      obtain ⟨L7, eL7⟩ : ∃ q, q = jSto1 [(0, .ref 66), (1, .int (i32 (x)))] 2 (.int (i32 (0))) := ⟨_, rfl⟩
      rw [← eL7]
      have gL7_0 : jGet L7 0 = some (.ref 66) := eL7 ▸ jg_ne (by decide) (rfl : jGet [(0, .ref 66), (1, .int (i32 (x)))] 0 = some (.ref 66)) rfl
      have gL7_1 : jGet L7 1 = some (.int (i32 (x))) := eL7 ▸ jg_ne (by decide) (rfl : jGet [(0, .ref 66), (1, .int (i32 (x)))] 1 = some (.int (i32 (x)))) rfl
      have gL7_2 : jGet L7 2 = some (.int (i32 (0))) := eL7 ▸ jg_eq
      refine jx_ld (pc' := 17) (l' := L7) (st' := [.int (i32 (0))]) rfl (jl_iloadn gL7_2) ?_
      refine jx_if_ne (pc' := 20) (tg := 22) rfl rfl rfl (by decide) (by decide) (fun h8 => ?_) (fun h8 => ?_)
      · have _q := h8
        exact absurd h8 (by omega)
      · have _q := h8
        refine jx_ld (pc' := 21) (l' := L7) (st' := [.int (i32 (x))]) rfl (jl_iloadn gL7_1) ?_
        refine jx_rt (v := some (.int (i32 (x)))) rfl rfl rfl rfl rfl rfl ?_
        have z9 := tz_f (tk0)
        exact ⟨_, _, _, at0, fk, op0, nd, tk0, rfl, rfl, hW, hF0, hP0, by omega, (e_at0), (e_fk), (e_op0), (e_nd), (e_tk0), by omega, by omega, by omega, by omega, by omega, by omega, by first | exact Or.inl (⟨by omega, by omega, by omega, by omega, by omega, by omega⟩) | exact Or.inr (Or.inl (⟨by omega, by omega, by omega⟩)) | exact Or.inr (Or.inr ((⟨by omega, by omega, by omega⟩)))⟩
  · have _q : True := trivial
    refine jx_if_eq (pc' := 7) (tg := 11) rfl rfl rfl (by decide) (by decide) (fun h10 => ?_) (fun h10 => ?_)
    · have _q := h10
      refine jx_ld (pc' := 12) (l' := [(0, .ref 66), (1, .int (i32 (x)))]) (st' := [.ref 66]) rfl (jl_aloadn rfl) ?_
      have b11 : (-2147483648 : Int) ≤ G 13 ∧ G 13 ≤ 2147483647 := hW.1 13
      refine jx_vr (pc' := 15) (as := []) (st := []) rfl rfl rfl rfl ⟨rfl, rfl, Nat.le_of_ble_eq_true rfl⟩ rfl rfl (c_operationAt (dd := d) (hd := by omega) (hW := hW)  (tk := tk0) (e_tk := show G 11 = tk0 from (e_tk0)) (tn := G 13) (e_tn := show G 13 = G 13 from rfl)    ) (fun o V' hq => ?_)
      obtain ⟨r12, rfl, rfl, b13, q14⟩ := hq
      refine .inr ⟨_, rfl, ?_⟩
      rcases q14 with rfl | a15
      · have _q : True := trivial
        refine jx_ld (pc' := 16) (l' := jSto1 [(0, .ref 66), (1, .int (i32 (x)))] 2 (.int (i32 (0)))) (st' := []) rfl rfl ?_
        obtain ⟨L16, eL16⟩ : ∃ q, q = jSto1 [(0, .ref 66), (1, .int (i32 (x)))] 2 (.int (i32 (0))) := ⟨_, rfl⟩
        rw [← eL16]
        have gL16_0 : jGet L16 0 = some (.ref 66) := eL16 ▸ jg_ne (by decide) (rfl : jGet [(0, .ref 66), (1, .int (i32 (x)))] 0 = some (.ref 66)) rfl
        have gL16_1 : jGet L16 1 = some (.int (i32 (x))) := eL16 ▸ jg_ne (by decide) (rfl : jGet [(0, .ref 66), (1, .int (i32 (x)))] 1 = some (.int (i32 (x)))) rfl
        have gL16_2 : jGet L16 2 = some (.int (i32 (0))) := eL16 ▸ jg_eq
        refine jx_ld (pc' := 17) (l' := L16) (st' := [.int (i32 (0))]) rfl (jl_iloadn gL16_2) ?_
        refine jx_if_ne (pc' := 20) (tg := 22) rfl rfl rfl (by decide) (by decide) (fun h17 => ?_) (fun h17 => ?_)
        · have _q := h17
          exact absurd h17 (by omega)
        · have _q := h17
          refine jx_ld (pc' := 21) (l' := L16) (st' := [.int (i32 (x))]) rfl (jl_iloadn gL16_1) ?_
          refine jx_rt (v := some (.int (i32 (x)))) rfl rfl rfl rfl rfl rfl ?_
          have z18 := tz_f (tk0)
          exact ⟨_, _, _, at0, fk, op0, nd, tk0, rfl, rfl, hW, hF0, hP0, by omega, (e_at0), (e_fk), (e_op0), (e_nd), (e_tk0), by omega, by omega, by omega, by omega, by omega, by omega, by first | exact Or.inl (⟨by omega, by omega, by omega, by omega, by omega, by omega⟩) | exact Or.inr (Or.inl (⟨by omega, by omega, by omega⟩)) | exact Or.inr (Or.inr ((⟨by omega, by omega, by omega⟩)))⟩
      · have _q : True := trivial
        refine jx_ld (pc' := 16) (l' := jSto1 [(0, .ref 66), (1, .int (i32 (x)))] 2 (.int (i32 (r12)))) (st' := []) rfl rfl ?_
        obtain ⟨L19, eL19⟩ : ∃ q, q = jSto1 [(0, .ref 66), (1, .int (i32 (x)))] 2 (.int (i32 (r12))) := ⟨_, rfl⟩
        rw [← eL19]
        have gL19_0 : jGet L19 0 = some (.ref 66) := eL19 ▸ jg_ne (by decide) (rfl : jGet [(0, .ref 66), (1, .int (i32 (x)))] 0 = some (.ref 66)) rfl
        have gL19_1 : jGet L19 1 = some (.int (i32 (x))) := eL19 ▸ jg_ne (by decide) (rfl : jGet [(0, .ref 66), (1, .int (i32 (x)))] 1 = some (.int (i32 (x)))) rfl
        have gL19_2 : jGet L19 2 = some (.int (i32 (r12))) := eL19 ▸ jg_eq
        refine jx_ld (pc' := 17) (l' := L19) (st' := [.int (i32 (r12))]) rfl (jl_iloadn gL19_2) ?_
        refine jx_if_ne (pc' := 20) (tg := 22) rfl rfl rfl (Int.le_trans (by decide : (-2147483648 : Int) ≤ -2147483648) b13.1) (Int.le_trans b13.2 (by decide : (2147483647 : Int) ≤ 2147483647)) (fun h20 => ?_) (fun h20 => ?_)
        · have _q := h20
          refine jx_ld (pc' := 23) (l' := L19) (st' := [.ref 66]) rfl (jl_aloadn gL19_0) ?_
          refine jx_vr (pc' := 26) (as := []) (st := []) rfl rfl rfl rfl ⟨rfl, rfl, Nat.le_of_ble_eq_true rfl⟩ rfl rfl (c_next (dd := d) (hd := by omega) (hW := hW)  (ln := ln) (e_ln := show G 9 = ln from (e_ln)) (le := le) (e_le := show A 4 (ln).toNat = le from (e_le)) (at0 := at0) (e_at0 := show G 10 = at0 from (e_at0))    (p_0 := by omega)) (fun o V' hq => ?_)
          obtain ⟨G21, A22, at2_23, tk2_24, rfl, rfl, hW25, hF26, e27, e28, p29, p30, p31, -⟩ := hq
          have hF33 := Fr_tr hF0 hF26 (Fr_sub (by decide)) (Fr_sub (by decide))
          have hP34 := Pf_f hP0 hF26 (by decide)
          have bat2_23 : (0 : Int) ≤ at2_23 ∧ at2_23 ≤ 3002 := e27 ▸ hW25.1 10
          have ztk2_24 := tz_b tk2_24
          have btk2_24 : (0 : Int) ≤ tk2_24 ∧ tk2_24 ≤ 5 := e28 ▸ hW25.1 11
          refine .inl ⟨rfl, ?_⟩
          refine jx_ld (pc' := 27) (l' := L19) (st' := [.ref 66]) rfl (jl_aloadn gL19_0) ?_
          refine jx_vr (pc' := 30) (as := []) (st := []) rfl rfl rfl rfl ⟨rfl, rfl, Nat.le_of_ble_eq_true rfl⟩ rfl rfl (c_readOperand (dd := d) (hE := hE) (hd := by omega) (hW := hW25)  (ln := ln) (e_ln := show G21 9 = ln from ((hF26.1 9 rfl).trans (e_ln))) (le := le) (e_le := show A22 4 (ln).toNat = le from (congrFun (hF26.2 4 rfl) _).trans (e_le)) (at0 := at2_23) (e_at0 := show G21 10 = at2_23 from (e27)) (fk := fk) (e_fk := show G21 16 = fk from ((hF26.1 16 rfl).trans (e_fk))) (op0 := op0) (e_op0 := show G21 15 = op0 from ((hF26.1 15 rfl).trans (e_op0))) (nd := nd) (e_nd := show G21 31 = nd from ((hF26.1 31 rfl).trans (e_nd))) (tk0 := tk2_24) (e_tk0 := show G21 11 = tk2_24 from (e28))    (p_0 := by omega) (p_1 := by omega) (p_2 := by omega) (p_3 := by omega) (p_4 := by omega) (p_5 := by omega)) (fun o V' hq => ?_)
          obtain ⟨G35, A36, r37, at2_38, fk2_39, op2_40, nd2_41, tk2_42, rfl, rfl, hW43, hF44, hQ45, b46, e47, e48, e49, e50, e51, p52, p53, p54, p55, p56, p57, q58⟩ := hq
          have hF59 := Fr_tr hF33 hF44 (Fr_sub (by decide)) (Fr_sub (by decide))
          have hP60 := Pf_tr hP34 hQ45 (by omega)
          have bat2_38 : (0 : Int) ≤ at2_38 ∧ at2_38 ≤ 3002 := e47 ▸ hW43.1 10
          have bfk2_39 : (0 : Int) ≤ fk2_39 ∧ fk2_39 ≤ 6 := e48 ▸ hW43.1 16
          have bop2_40 : (-2147483648 : Int) ≤ op2_40 ∧ op2_40 ≤ 2147483647 := e49 ▸ hW43.1 15
          have bnd2_41 : (0 : Int) ≤ nd2_41 ∧ nd2_41 ≤ 6999 := e50 ▸ hW43.1 31
          have ztk2_42 := tz_b tk2_42
          have btk2_42 : (0 : Int) ≤ tk2_42 ∧ tk2_42 ≤ 5 := e51 ▸ hW43.1 11
          refine .inr ⟨_, rfl, ?_⟩
          rcases q58 with ⟨a61, a62, a63, a64, a65, a66⟩ | ⟨a67, a68, a69⟩ | ⟨a70, a71, a72⟩
          · have _q : True := trivial
            exfalso
            omega
          · have _q : True := trivial
            refine jx_ld (pc' := 31) (l' := jSto1 L19 3 (.int (i32 (r37)))) (st' := []) rfl rfl ?_
            obtain ⟨L73, eL73⟩ : ∃ q, q = jSto1 L19 3 (.int (i32 (r37))) := ⟨_, rfl⟩
            rw [← eL73]
            have gL73_0 : jGet L73 0 = some (.ref 66) := eL73 ▸ jg_ne (by decide) gL19_0 rfl
            have gL73_1 : jGet L73 1 = some (.int (i32 (x))) := eL73 ▸ jg_ne (by decide) gL19_1 rfl
            have gL73_2 : jGet L73 2 = some (.int (i32 (r12))) := eL73 ▸ jg_ne (by decide) gL19_2 rfl
            have gL73_3 : jGet L73 3 = some (.int (i32 (r37))) := eL73 ▸ jg_eq
            refine jx_ld (pc' := 32) (l' := L73) (st' := [.ref 66]) rfl (jl_aloadn gL73_0) ?_
            refine jx_ar (pc' := 33) (st' := [.int (i32 (4)), .ref 66]) rfl rfl rfl rfl ?_
            refine jx_ld (pc' := 34) (l' := L73) (st' := [.int (i32 (r12)), .int (i32 (4)), .ref 66]) rfl (jl_iloadn gL73_2) ?_
            refine jx_ld (pc' := 35) (l' := L73) (st' := [.int (i32 (x)), .int (i32 (r12)), .int (i32 (4)), .ref 66]) rfl (jl_iloadn gL73_1) ?_
            refine jx_ld (pc' := 36) (l' := L73) (st' := [.int (i32 (r37)), .int (i32 (x)), .int (i32 (r12)), .int (i32 (4)), .ref 66]) rfl (jl_iloadn gL73_3) ?_
            refine jx_ar (pc' := 37) (st' := [.int (i32 (0)), .int (i32 (r37)), .int (i32 (x)), .int (i32 (r12)), .int (i32 (4)), .ref 66]) rfl rfl rfl rfl ?_
            refine jx_vr (pc' := 40) (as := [.int (i32 (4)), .int (i32 (r12)), .int (i32 (x)), .int (i32 (r37)), .int (i32 (0))]) (st := []) rfl rfl rfl rfl ⟨rfl, rfl, Nat.le_of_ble_eq_true rfl⟩ rfl rfl (c_node (dd := d) (hd := by omega) (hW := hW43) (kind := 4) (a := r12) (b := x) (c := r37) (e := 0) (nd := nd2_41) (e_nd := show G35 31 = nd2_41 from (e50))  (h_kind := ⟨(by decide), (by decide)⟩) (h_a := ⟨(Int.le_trans (by decide : (-2147483648 : Int) ≤ -2147483648) b13.1), (Int.le_trans b13.2 (by decide : (2147483647 : Int) ≤ 2147483647))⟩) (h_b := ⟨(Int.le_trans (by decide : (-2147483648 : Int) ≤ -2147483648) h_x.1), (Int.le_trans h_x.2 (by decide : (2147483647 : Int) ≤ 2147483647))⟩) (h_c := ⟨(Int.le_trans (by decide : (-2147483648 : Int) ≤ -2147483648) b46.1), (Int.le_trans b46.2 (by decide : (2147483647 : Int) ≤ 2147483647))⟩) (h_e := ⟨(by decide), (by decide)⟩)  (p_0 := by omega) (p_1 := by omega)) (fun o V' hq => ?_)
            obtain ⟨G74, A75, nd2_76, rfl, rfl, hW77, hF78, hQ79, e80, p81, -⟩ := hq
            have hF83 := Fr_tr hF59 hF78 (Fr_sub (by decide)) (Fr_sub (by decide))
            have hP84 := Pf_tr hP60 hQ79 (by omega)
            have bnd2_76 : (0 : Int) ≤ nd2_76 ∧ nd2_76 ≤ 6999 := e80 ▸ hW77.1 31
            refine .inr ⟨_, rfl, ?_⟩
            refine jx_rt (v := some (.int (i32 (nd2_41)))) rfl rfl rfl rfl rfl rfl ?_
            have z85 := tz_f (tk2_42)
            exact ⟨_, _, _, at2_38, fk2_39, op2_40, nd2_76, tk2_42, rfl, rfl, hW77, hF83, hP84, by omega, ((hF78.1 10 rfl).trans (e47)), ((hF78.1 16 rfl).trans (e48)), ((hF78.1 15 rfl).trans (e49)), (e80), ((hF78.1 11 rfl).trans (e51)), by omega, by omega, by omega, by omega, by omega, by omega, by first | exact Or.inl (⟨by omega, by omega, by omega, by omega, by omega, by omega⟩) | exact Or.inr (Or.inl (⟨by omega, by omega, by omega⟩)) | exact Or.inr (Or.inr ((⟨by omega, by omega, by omega⟩)))⟩
          · have _q : True := trivial
            refine jx_ld (pc' := 31) (l' := jSto1 L19 3 (.int (i32 (r37)))) (st' := []) rfl rfl ?_
            obtain ⟨L86, eL86⟩ : ∃ q, q = jSto1 L19 3 (.int (i32 (r37))) := ⟨_, rfl⟩
            rw [← eL86]
            have gL86_0 : jGet L86 0 = some (.ref 66) := eL86 ▸ jg_ne (by decide) gL19_0 rfl
            have gL86_1 : jGet L86 1 = some (.int (i32 (x))) := eL86 ▸ jg_ne (by decide) gL19_1 rfl
            have gL86_2 : jGet L86 2 = some (.int (i32 (r12))) := eL86 ▸ jg_ne (by decide) gL19_2 rfl
            have gL86_3 : jGet L86 3 = some (.int (i32 (r37))) := eL86 ▸ jg_eq
            refine jx_ld (pc' := 32) (l' := L86) (st' := [.ref 66]) rfl (jl_aloadn gL86_0) ?_
            refine jx_ar (pc' := 33) (st' := [.int (i32 (4)), .ref 66]) rfl rfl rfl rfl ?_
            refine jx_ld (pc' := 34) (l' := L86) (st' := [.int (i32 (r12)), .int (i32 (4)), .ref 66]) rfl (jl_iloadn gL86_2) ?_
            refine jx_ld (pc' := 35) (l' := L86) (st' := [.int (i32 (x)), .int (i32 (r12)), .int (i32 (4)), .ref 66]) rfl (jl_iloadn gL86_1) ?_
            refine jx_ld (pc' := 36) (l' := L86) (st' := [.int (i32 (r37)), .int (i32 (x)), .int (i32 (r12)), .int (i32 (4)), .ref 66]) rfl (jl_iloadn gL86_3) ?_
            refine jx_ar (pc' := 37) (st' := [.int (i32 (0)), .int (i32 (r37)), .int (i32 (x)), .int (i32 (r12)), .int (i32 (4)), .ref 66]) rfl rfl rfl rfl ?_
            refine jx_vr (pc' := 40) (as := [.int (i32 (4)), .int (i32 (r12)), .int (i32 (x)), .int (i32 (r37)), .int (i32 (0))]) (st := []) rfl rfl rfl rfl ⟨rfl, rfl, Nat.le_of_ble_eq_true rfl⟩ rfl rfl (c_node (dd := d) (hd := by omega) (hW := hW43) (kind := 4) (a := r12) (b := x) (c := r37) (e := 0) (nd := nd2_41) (e_nd := show G35 31 = nd2_41 from (e50))  (h_kind := ⟨(by decide), (by decide)⟩) (h_a := ⟨(Int.le_trans (by decide : (-2147483648 : Int) ≤ -2147483648) b13.1), (Int.le_trans b13.2 (by decide : (2147483647 : Int) ≤ 2147483647))⟩) (h_b := ⟨(Int.le_trans (by decide : (-2147483648 : Int) ≤ -2147483648) h_x.1), (Int.le_trans h_x.2 (by decide : (2147483647 : Int) ≤ 2147483647))⟩) (h_c := ⟨(Int.le_trans (by decide : (-2147483648 : Int) ≤ -2147483648) b46.1), (Int.le_trans b46.2 (by decide : (2147483647 : Int) ≤ 2147483647))⟩) (h_e := ⟨(by decide), (by decide)⟩)  (p_0 := by omega) (p_1 := by omega)) (fun o V' hq => ?_)
            obtain ⟨G87, A88, nd2_89, rfl, rfl, hW90, hF91, hQ92, e93, p94, -⟩ := hq
            have hF96 := Fr_tr hF59 hF91 (Fr_sub (by decide)) (Fr_sub (by decide))
            have hP97 := Pf_tr hP60 hQ92 (by omega)
            have bnd2_89 : (0 : Int) ≤ nd2_89 ∧ nd2_89 ≤ 6999 := e93 ▸ hW90.1 31
            refine .inr ⟨_, rfl, ?_⟩
            refine jx_rt (v := some (.int (i32 (nd2_41)))) rfl rfl rfl rfl rfl rfl ?_
            have z98 := tz_f (tk2_42)
            exact ⟨_, _, _, at2_38, fk2_39, op2_40, nd2_89, tk2_42, rfl, rfl, hW90, hF96, hP97, by omega, ((hF91.1 10 rfl).trans (e47)), ((hF91.1 16 rfl).trans (e48)), ((hF91.1 15 rfl).trans (e49)), (e93), ((hF91.1 11 rfl).trans (e51)), by omega, by omega, by omega, by omega, by omega, by omega, by first | exact Or.inl (⟨by omega, by omega, by omega, by omega, by omega, by omega⟩) | exact Or.inr (Or.inl (⟨by omega, by omega, by omega⟩)) | exact Or.inr (Or.inr ((⟨by omega, by omega, by omega⟩)))⟩
        · have _q := h20
          refine jx_ld (pc' := 21) (l' := L19) (st' := [.int (i32 (x))]) rfl (jl_iloadn gL19_1) ?_
          refine jx_rt (v := some (.int (i32 (x)))) rfl rfl rfl rfl rfl rfl ?_
          have z99 := tz_f (tk0)
          exact ⟨_, _, _, at0, fk, op0, nd, tk0, rfl, rfl, hW, hF0, hP0, by omega, (e_at0), (e_fk), (e_op0), (e_nd), (e_tk0), by omega, by omega, by omega, by omega, by omega, by omega, by first | exact Or.inl (⟨by omega, by omega, by omega, by omega, by omega, by omega⟩) | exact Or.inr (Or.inl (⟨by omega, by omega, by omega⟩)) | exact Or.inr (Or.inr ((⟨by omega, by omega, by omega⟩)))⟩
    · have _q := h10
      exact absurd h10 (by omega)
set_option maxRecDepth 20000 in
set_option maxHeartbeats 4000000 in
theorem c_readE_s {X : jX} {k : Nat} (hE : RE X k) {dd : Nat} {c0 c1 : jC} {G : Nat → Int} {A : Nat → Nat → Int} {T : jH} {ln le at0 fk op0 nd tk0 : Int} (hd : 6 * (k + 1) + 10 ≤ dd) (hW : Wk G A) (e_ln : G 9 = ln) (e_le : A 4 (ln).toNat = le) (e_at0 : G 10 = at0) (e_fk : G 16 = fk) (e_op0 : G 15 = op0) (e_nd : G 31 = nd) (e_tk0 : G 11 = tk0) (p_0 : 0 ≤ op0) (p_1 : op0 ≤ 9) (p_2 : op0 ≤ 8 ∨ 1 ≤ fk) (p_3 : 9 - op0 ≤ ((k + 1 : Nat) : Int) ∨ 1 ≤ fk) (p_4 : nd ≤ 2 * at0 - tz tk0 + 50) (p_5 : at0 ≤ le) : wk X dd 286 [.ref 66] (rV c0 c1 G A T) (fun o V' => ∃ (G' : Nat → Int) (A' : Nat → Nat → Int) (r : Int) (at2 : Int) (fk2 : Int) (op2 : Int) (nd2 : Int) (tk2 : Int), V' = rV c0 c1 G' A' T ∧ o = .inl (some (.int (i32 r))) ∧ Wk G' A' ∧ Fr [10, 11, 12, 13, 14, 15, 16, 17, 18, 31] [15, 16, 17, 18, 19, 20, 21, 22, 24, 28] G A G' A' ∧ Pf nd A A' ∧ ((-2147483648 : Int) ≤ r ∧ r ≤ 2147483647) ∧ G' 10 = at2 ∧ G' 16 = fk2 ∧ G' 15 = op2 ∧ G' 31 = nd2 ∧ G' 11 = tk2 ∧ (at0 ≤ at2) ∧ (at2 ≤ le) ∧ (nd ≤ nd2) ∧ (op2 = op0) ∧ (0 ≤ r) ∧ (r ≤ nd2) ∧ (((1 ≤ fk) ∧ (1 ≤ fk2) ∧ (nd2 = nd) ∧ (at2 = at0) ∧ (tk2 = tk0) ∧ (tz tk2 = tz tk0)) ∨ ((fk = 0) ∧ (1 ≤ fk2) ∧ (nd2 - nd ≤ (2 * at2 - tz tk2) - (2 * at0 - tz tk0) + 1)) ∨ ((fk = 0) ∧ (fk2 = 0) ∧ (nd2 - nd ≤ (2 * at2 - tz tk2) - (2 * at0 - tz tk0))))) := by
  obtain ⟨d, rfl⟩ : ∃ d, dd = d + 1 := ⟨dd - 1, by omega⟩
  refine wk_of (e := jm286) rfl (Nat.le_of_ble_eq_true rfl) ?_
  show wj X d jm286 (0, [(0, .ref 66)], [], rV c0 c1 G A T) _
  have hF0 : Fr [10, 11, 12, 13, 14, 15, 16, 17, 18, 31] [15, 16, 17, 18, 19, 20, 21, 22, 24, 28] G A G A := Fr_rf
  have hP0 : Pf nd A A := Pf_rf
  have b_ln : (0 : Int) ≤ ln ∧ ln ≤ 3000 := e_ln ▸ hW.1 9
  have b_le : (0 : Int) ≤ le ∧ le ≤ 3000 := e_le ▸ hW.2 4 _
  have b_at0 : (0 : Int) ≤ at0 ∧ at0 ≤ 3002 := e_at0 ▸ hW.1 10
  have b_fk : (0 : Int) ≤ fk ∧ fk ≤ 6 := e_fk ▸ hW.1 16
  have b_op0 : (-2147483648 : Int) ≤ op0 ∧ op0 ≤ 2147483647 := e_op0 ▸ hW.1 15
  have b_nd : (0 : Int) ≤ nd ∧ nd ≤ 6999 := e_nd ▸ hW.1 31
  have z_tk0 := tz_f tk0
  have b_tk0 : (0 : Int) ≤ tk0 ∧ tk0 ≤ 5 := e_tk0 ▸ hW.1 11
  refine jx_ld (pc' := 1) (l' := [(0, .ref 66)]) (st' := [.ref 66]) rfl (jl_aloadn rfl) ?_
  refine jx_vr (pc' := 4) (as := []) (st := []) rfl rfl rfl rfl ⟨rfl, rfl, Nat.le_of_ble_eq_true rfl⟩ rfl rfl (c_bad (dd := d) (hd := by omega) (hW := hW)  (fk := fk) (e_fk := show G 16 = fk from (e_fk))    ) (fun o V' hq => ?_)
  obtain ⟨r1, rfl, rfl, b2, q3⟩ := hq
  refine .inr ⟨_, rfl, ?_⟩
  rcases q3 with ⟨rfl, a4⟩ | ⟨rfl, a5⟩
  · have _q : True := trivial
    refine jx_if_eq (pc' := 7) (tg := 9) rfl rfl rfl (by decide) (by decide) (fun h6 => ?_) (fun h6 => ?_)
    · have _q := h6
      exact absurd h6 (by omega)
    · have _q := h6
      refine jx_ar (pc' := 8) (st' := [.int (i32 (0))]) rfl rfl rfl rfl ?_
      refine jx_rt (v := some (.int (i32 (0)))) rfl rfl rfl rfl rfl rfl ?_
      have z7 := tz_f (tk0)
      exact ⟨_, _, _, at0, fk, op0, nd, tk0, rfl, rfl, hW, hF0, hP0, by omega, (e_at0), (e_fk), (e_op0), (e_nd), (e_tk0), by omega, by omega, by omega, by omega, by omega, by omega, by first | exact Or.inl (⟨by omega, by omega, by omega, by omega, by omega, by omega⟩) | exact Or.inr (Or.inl (⟨by omega, by omega, by omega⟩)) | exact Or.inr (Or.inr ((⟨by omega, by omega, by omega⟩)))⟩
  · have _q : True := trivial
    refine jx_if_eq (pc' := 7) (tg := 9) rfl rfl rfl (by decide) (by decide) (fun h8 => ?_) (fun h8 => ?_)
    · have _q := h8
      refine jx_ld (pc' := 10) (l' := [(0, .ref 66)]) (st' := [.ref 66]) rfl (jl_aloadn rfl) ?_
      refine jx_ar (pc' := 12) (st' := [.int (i32 (45)), .ref 66]) rfl rfl rfl rfl ?_
      have b9 : (-2147483648 : Int) ≤ G 13 ∧ G 13 ≤ 2147483647 := hW.1 13
      refine jx_vr (pc' := 15) (as := [.int (i32 (45))]) (st := []) rfl rfl rfl rfl ⟨rfl, rfl, Nat.le_of_ble_eq_true rfl⟩ rfl rfl (c_is (dd := d) (hd := by omega) (hW := hW) (k := 45) (tk := tk0) (e_tk := show G 11 = tk0 from (e_tk0)) (tn := G 13) (e_tn := show G 13 = G 13 from rfl)  (h_k := ⟨(by decide), (by decide)⟩)  ) (fun o V' hq => ?_)
      obtain ⟨r10, rfl, rfl, b11, q12⟩ := hq
      refine .inr ⟨_, rfl, ?_⟩
      rcases q12 with ⟨rfl, a13, a14, a15⟩ | rfl
      · have _q : True := trivial
        refine jx_if_ne (pc' := 18) (tg := 27) rfl rfl rfl (by decide) (by decide) (fun h16 => ?_) (fun h16 => ?_)
        · have _q := h16
          refine jx_ld (pc' := 28) (l' := [(0, .ref 66)]) (st' := [.ref 66]) rfl (jl_aloadn rfl) ?_
          refine jx_ar (pc' := 30) (st' := [.int (i32 (45)), .ref 66]) rfl rfl rfl rfl ?_
          refine jx_vr (pc' := 33) (as := [.int (i32 (45))]) (st := []) rfl rfl rfl rfl ⟨rfl, rfl, Nat.le_of_ble_eq_true rfl⟩ rfl rfl (c_is (dd := d) (hd := by omega) (hW := hW) (k := 45) (tk := tk0) (e_tk := show G 11 = tk0 from (e_tk0)) (tn := G 13) (e_tn := show G 13 = G 13 from rfl)  (h_k := ⟨(by decide), (by decide)⟩)  ) (fun o V' hq => ?_)
          obtain ⟨r17, rfl, rfl, b18, q19⟩ := hq
          refine .inr ⟨_, rfl, ?_⟩
          rcases q19 with ⟨rfl, a20, a21, a22⟩ | rfl
          · have _q : True := trivial
            refine jx_if_eq (pc' := 36) (tg := 40) rfl rfl rfl (by decide) (by decide) (fun h23 => ?_) (fun h23 => ?_)
            · have _q := h23
              exact absurd h23 (by omega)
            · have _q := h23
              refine jx_ar (pc' := 37) (st' := [.int (i32 (5))]) rfl rfl rfl rfl ?_
              refine jx_go (tg := 42) rfl rfl ?_
              refine jx_ld (pc' := 43) (l' := jSto1 [(0, .ref 66)] 1 (.int (i32 (5)))) (st' := []) rfl rfl ?_
              obtain ⟨L24, eL24⟩ : ∃ q, q = jSto1 [(0, .ref 66)] 1 (.int (i32 (5))) := ⟨_, rfl⟩
              rw [← eL24]
              have gL24_0 : jGet L24 0 = some (.ref 66) := eL24 ▸ jg_ne (by decide) (rfl : jGet [(0, .ref 66)] 0 = some (.ref 66)) rfl
              have gL24_1 : jGet L24 1 = some (.int (i32 (5))) := eL24 ▸ jg_eq
              refine jx_ld (pc' := 44) (l' := L24) (st' := [.ref 66]) rfl (jl_aloadn gL24_0) ?_
              refine jx_vr (pc' := 47) (as := []) (st := []) rfl rfl rfl rfl ⟨rfl, rfl, Nat.le_of_ble_eq_true rfl⟩ rfl rfl (c_next (dd := d) (hd := by omega) (hW := hW)  (ln := ln) (e_ln := show G 9 = ln from (e_ln)) (le := le) (e_le := show A 4 (ln).toNat = le from (e_le)) (at0 := at0) (e_at0 := show G 10 = at0 from (e_at0))    (p_0 := by omega)) (fun o V' hq => ?_)
              obtain ⟨G25, A26, at2_27, tk2_28, rfl, rfl, hW29, hF30, e31, e32, p33, p34, p35, -⟩ := hq
              have hF37 := Fr_tr hF0 hF30 (Fr_sub (by decide)) (Fr_sub (by decide))
              have hP38 := Pf_f hP0 hF30 (by decide)
              have bat2_27 : (0 : Int) ≤ at2_27 ∧ at2_27 ≤ 3002 := e31 ▸ hW29.1 10
              have ztk2_28 := tz_b tk2_28
              have btk2_28 : (0 : Int) ≤ tk2_28 ∧ tk2_28 ≤ 5 := e32 ▸ hW29.1 11
              refine .inl ⟨rfl, ?_⟩
              refine jx_ld (pc' := 48) (l' := L24) (st' := [.ref 66]) rfl (jl_aloadn gL24_0) ?_
              refine jx_vr (pc' := 51) (as := []) (st := []) rfl rfl rfl rfl ⟨rfl, rfl, Nat.le_of_ble_eq_true rfl⟩ rfl rfl (c_readOperand (dd := d) (hE := hE) (hd := by omega) (hW := hW29)  (ln := ln) (e_ln := show G25 9 = ln from ((hF30.1 9 rfl).trans (e_ln))) (le := le) (e_le := show A26 4 (ln).toNat = le from (congrFun (hF30.2 4 rfl) _).trans (e_le)) (at0 := at2_27) (e_at0 := show G25 10 = at2_27 from (e31)) (fk := fk) (e_fk := show G25 16 = fk from ((hF30.1 16 rfl).trans (e_fk))) (op0 := op0) (e_op0 := show G25 15 = op0 from ((hF30.1 15 rfl).trans (e_op0))) (nd := nd) (e_nd := show G25 31 = nd from ((hF30.1 31 rfl).trans (e_nd))) (tk0 := tk2_28) (e_tk0 := show G25 11 = tk2_28 from (e32))    (p_0 := by omega) (p_1 := by omega) (p_2 := by omega) (p_3 := by omega) (p_4 := by omega) (p_5 := by omega)) (fun o V' hq => ?_)
              obtain ⟨G39, A40, r41, at2_42, fk2_43, op2_44, nd2_45, tk2_46, rfl, rfl, hW47, hF48, hQ49, b50, e51, e52, e53, e54, e55, p56, p57, p58, p59, p60, p61, q62⟩ := hq
              have hF63 := Fr_tr hF37 hF48 (Fr_sub (by decide)) (Fr_sub (by decide))
              have hP64 := Pf_tr hP38 hQ49 (by omega)
              have bat2_42 : (0 : Int) ≤ at2_42 ∧ at2_42 ≤ 3002 := e51 ▸ hW47.1 10
              have bfk2_43 : (0 : Int) ≤ fk2_43 ∧ fk2_43 ≤ 6 := e52 ▸ hW47.1 16
              have bop2_44 : (-2147483648 : Int) ≤ op2_44 ∧ op2_44 ≤ 2147483647 := e53 ▸ hW47.1 15
              have bnd2_45 : (0 : Int) ≤ nd2_45 ∧ nd2_45 ≤ 6999 := e54 ▸ hW47.1 31
              have ztk2_46 := tz_b tk2_46
              have btk2_46 : (0 : Int) ≤ tk2_46 ∧ tk2_46 ≤ 5 := e55 ▸ hW47.1 11
              refine .inr ⟨_, rfl, ?_⟩
              rcases q62 with ⟨a65, a66, a67, a68, a69, a70⟩ | ⟨a71, a72, a73⟩ | ⟨a74, a75, a76⟩
              · have _q : True := trivial
                exfalso
                omega
              · have _q : True := trivial
                refine jx_ld (pc' := 52) (l' := jSto1 L24 2 (.int (i32 (r41)))) (st' := []) rfl rfl ?_
                obtain ⟨L77, eL77⟩ : ∃ q, q = jSto1 L24 2 (.int (i32 (r41))) := ⟨_, rfl⟩
                rw [← eL77]
                have gL77_0 : jGet L77 0 = some (.ref 66) := eL77 ▸ jg_ne (by decide) gL24_0 rfl
                have gL77_1 : jGet L77 1 = some (.int (i32 (5))) := eL77 ▸ jg_ne (by decide) gL24_1 rfl
                have gL77_2 : jGet L77 2 = some (.int (i32 (r41))) := eL77 ▸ jg_eq
                refine jx_ld (pc' := 53) (l' := L77) (st' := [.ref 66]) rfl (jl_aloadn gL77_0) ?_
                refine jx_ld (pc' := 54) (l' := L77) (st' := [.int (i32 (5)), .ref 66]) rfl (jl_iloadn gL77_1) ?_
                refine jx_ld (pc' := 55) (l' := L77) (st' := [.int (i32 (r41)), .int (i32 (5)), .ref 66]) rfl (jl_iloadn gL77_2) ?_
                refine jx_ar (pc' := 56) (st' := [.int (i32 (0)), .int (i32 (r41)), .int (i32 (5)), .ref 66]) rfl rfl rfl rfl ?_
                refine jx_ar (pc' := 57) (st' := [.int (i32 (0)), .int (i32 (0)), .int (i32 (r41)), .int (i32 (5)), .ref 66]) rfl rfl rfl rfl ?_
                refine jx_ar (pc' := 58) (st' := [.int (i32 (0)), .int (i32 (0)), .int (i32 (0)), .int (i32 (r41)), .int (i32 (5)), .ref 66]) rfl rfl rfl rfl ?_
                refine jx_vr (pc' := 61) (as := [.int (i32 (5)), .int (i32 (r41)), .int (i32 (0)), .int (i32 (0)), .int (i32 (0))]) (st := []) rfl rfl rfl rfl ⟨rfl, rfl, Nat.le_of_ble_eq_true rfl⟩ rfl rfl (c_node (dd := d) (hd := by omega) (hW := hW47) (kind := 5) (a := r41) (b := 0) (c := 0) (e := 0) (nd := nd2_45) (e_nd := show G39 31 = nd2_45 from (e54))  (h_kind := ⟨(by decide), (by decide)⟩) (h_a := ⟨(Int.le_trans (by decide : (-2147483648 : Int) ≤ -2147483648) b50.1), (Int.le_trans b50.2 (by decide : (2147483647 : Int) ≤ 2147483647))⟩) (h_b := ⟨(by decide), (by decide)⟩) (h_c := ⟨(by decide), (by decide)⟩) (h_e := ⟨(by decide), (by decide)⟩)  (p_0 := by omega) (p_1 := by omega)) (fun o V' hq => ?_)
                obtain ⟨G78, A79, nd2_80, rfl, rfl, hW81, hF82, hQ83, e84, p85, -⟩ := hq
                have hF87 := Fr_tr hF63 hF82 (Fr_sub (by decide)) (Fr_sub (by decide))
                have hP88 := Pf_tr hP64 hQ83 (by omega)
                have bnd2_80 : (0 : Int) ≤ nd2_80 ∧ nd2_80 ≤ 6999 := e84 ▸ hW81.1 31
                refine .inr ⟨_, rfl, ?_⟩
                refine jx_rt (v := some (.int (i32 (nd2_45)))) rfl rfl rfl rfl rfl rfl ?_
                have z89 := tz_f (tk2_46)
                exact ⟨_, _, _, at2_42, fk2_43, op2_44, nd2_80, tk2_46, rfl, rfl, hW81, hF87, hP88, by omega, ((hF82.1 10 rfl).trans (e51)), ((hF82.1 16 rfl).trans (e52)), ((hF82.1 15 rfl).trans (e53)), (e84), ((hF82.1 11 rfl).trans (e55)), by omega, by omega, by omega, by omega, by omega, by omega, by first | exact Or.inl (⟨by omega, by omega, by omega, by omega, by omega, by omega⟩) | exact Or.inr (Or.inl (⟨by omega, by omega, by omega⟩)) | exact Or.inr (Or.inr ((⟨by omega, by omega, by omega⟩)))⟩
              · have _q : True := trivial
                refine jx_ld (pc' := 52) (l' := jSto1 L24 2 (.int (i32 (r41)))) (st' := []) rfl rfl ?_
                obtain ⟨L90, eL90⟩ : ∃ q, q = jSto1 L24 2 (.int (i32 (r41))) := ⟨_, rfl⟩
                rw [← eL90]
                have gL90_0 : jGet L90 0 = some (.ref 66) := eL90 ▸ jg_ne (by decide) gL24_0 rfl
                have gL90_1 : jGet L90 1 = some (.int (i32 (5))) := eL90 ▸ jg_ne (by decide) gL24_1 rfl
                have gL90_2 : jGet L90 2 = some (.int (i32 (r41))) := eL90 ▸ jg_eq
                refine jx_ld (pc' := 53) (l' := L90) (st' := [.ref 66]) rfl (jl_aloadn gL90_0) ?_
                refine jx_ld (pc' := 54) (l' := L90) (st' := [.int (i32 (5)), .ref 66]) rfl (jl_iloadn gL90_1) ?_
                refine jx_ld (pc' := 55) (l' := L90) (st' := [.int (i32 (r41)), .int (i32 (5)), .ref 66]) rfl (jl_iloadn gL90_2) ?_
                refine jx_ar (pc' := 56) (st' := [.int (i32 (0)), .int (i32 (r41)), .int (i32 (5)), .ref 66]) rfl rfl rfl rfl ?_
                refine jx_ar (pc' := 57) (st' := [.int (i32 (0)), .int (i32 (0)), .int (i32 (r41)), .int (i32 (5)), .ref 66]) rfl rfl rfl rfl ?_
                refine jx_ar (pc' := 58) (st' := [.int (i32 (0)), .int (i32 (0)), .int (i32 (0)), .int (i32 (r41)), .int (i32 (5)), .ref 66]) rfl rfl rfl rfl ?_
                refine jx_vr (pc' := 61) (as := [.int (i32 (5)), .int (i32 (r41)), .int (i32 (0)), .int (i32 (0)), .int (i32 (0))]) (st := []) rfl rfl rfl rfl ⟨rfl, rfl, Nat.le_of_ble_eq_true rfl⟩ rfl rfl (c_node (dd := d) (hd := by omega) (hW := hW47) (kind := 5) (a := r41) (b := 0) (c := 0) (e := 0) (nd := nd2_45) (e_nd := show G39 31 = nd2_45 from (e54))  (h_kind := ⟨(by decide), (by decide)⟩) (h_a := ⟨(Int.le_trans (by decide : (-2147483648 : Int) ≤ -2147483648) b50.1), (Int.le_trans b50.2 (by decide : (2147483647 : Int) ≤ 2147483647))⟩) (h_b := ⟨(by decide), (by decide)⟩) (h_c := ⟨(by decide), (by decide)⟩) (h_e := ⟨(by decide), (by decide)⟩)  (p_0 := by omega) (p_1 := by omega)) (fun o V' hq => ?_)
                obtain ⟨G91, A92, nd2_93, rfl, rfl, hW94, hF95, hQ96, e97, p98, -⟩ := hq
                have hF100 := Fr_tr hF63 hF95 (Fr_sub (by decide)) (Fr_sub (by decide))
                have hP101 := Pf_tr hP64 hQ96 (by omega)
                have bnd2_93 : (0 : Int) ≤ nd2_93 ∧ nd2_93 ≤ 6999 := e97 ▸ hW94.1 31
                refine .inr ⟨_, rfl, ?_⟩
                refine jx_rt (v := some (.int (i32 (nd2_45)))) rfl rfl rfl rfl rfl rfl ?_
                have z102 := tz_f (tk2_46)
                exact ⟨_, _, _, at2_42, fk2_43, op2_44, nd2_93, tk2_46, rfl, rfl, hW94, hF100, hP101, by omega, ((hF95.1 10 rfl).trans (e51)), ((hF95.1 16 rfl).trans (e52)), ((hF95.1 15 rfl).trans (e53)), (e97), ((hF95.1 11 rfl).trans (e55)), by omega, by omega, by omega, by omega, by omega, by omega, by first | exact Or.inl (⟨by omega, by omega, by omega, by omega, by omega, by omega⟩) | exact Or.inr (Or.inl (⟨by omega, by omega, by omega⟩)) | exact Or.inr (Or.inr ((⟨by omega, by omega, by omega⟩)))⟩
          · have _q : True := trivial
            refine jx_if_eq (pc' := 36) (tg := 40) rfl rfl rfl (by decide) (by decide) (fun h103 => ?_) (fun h103 => ?_)
            · have _q := h103
              refine jx_ar (pc' := 42) (st' := [.int (i32 (6))]) rfl rfl rfl rfl ?_
              refine jx_ld (pc' := 43) (l' := jSto1 [(0, .ref 66)] 1 (.int (i32 (6)))) (st' := []) rfl rfl ?_
              obtain ⟨L104, eL104⟩ : ∃ q, q = jSto1 [(0, .ref 66)] 1 (.int (i32 (6))) := ⟨_, rfl⟩
              rw [← eL104]
              have gL104_0 : jGet L104 0 = some (.ref 66) := eL104 ▸ jg_ne (by decide) (rfl : jGet [(0, .ref 66)] 0 = some (.ref 66)) rfl
              have gL104_1 : jGet L104 1 = some (.int (i32 (6))) := eL104 ▸ jg_eq
              refine jx_ld (pc' := 44) (l' := L104) (st' := [.ref 66]) rfl (jl_aloadn gL104_0) ?_
              refine jx_vr (pc' := 47) (as := []) (st := []) rfl rfl rfl rfl ⟨rfl, rfl, Nat.le_of_ble_eq_true rfl⟩ rfl rfl (c_next (dd := d) (hd := by omega) (hW := hW)  (ln := ln) (e_ln := show G 9 = ln from (e_ln)) (le := le) (e_le := show A 4 (ln).toNat = le from (e_le)) (at0 := at0) (e_at0 := show G 10 = at0 from (e_at0))    (p_0 := by omega)) (fun o V' hq => ?_)
              obtain ⟨G105, A106, at2_107, tk2_108, rfl, rfl, hW109, hF110, e111, e112, p113, p114, p115, -⟩ := hq
              have hF117 := Fr_tr hF0 hF110 (Fr_sub (by decide)) (Fr_sub (by decide))
              have hP118 := Pf_f hP0 hF110 (by decide)
              have bat2_107 : (0 : Int) ≤ at2_107 ∧ at2_107 ≤ 3002 := e111 ▸ hW109.1 10
              have ztk2_108 := tz_b tk2_108
              have btk2_108 : (0 : Int) ≤ tk2_108 ∧ tk2_108 ≤ 5 := e112 ▸ hW109.1 11
              refine .inl ⟨rfl, ?_⟩
              refine jx_ld (pc' := 48) (l' := L104) (st' := [.ref 66]) rfl (jl_aloadn gL104_0) ?_
              refine jx_vr (pc' := 51) (as := []) (st := []) rfl rfl rfl rfl ⟨rfl, rfl, Nat.le_of_ble_eq_true rfl⟩ rfl rfl (c_readOperand (dd := d) (hE := hE) (hd := by omega) (hW := hW109)  (ln := ln) (e_ln := show G105 9 = ln from ((hF110.1 9 rfl).trans (e_ln))) (le := le) (e_le := show A106 4 (ln).toNat = le from (congrFun (hF110.2 4 rfl) _).trans (e_le)) (at0 := at2_107) (e_at0 := show G105 10 = at2_107 from (e111)) (fk := fk) (e_fk := show G105 16 = fk from ((hF110.1 16 rfl).trans (e_fk))) (op0 := op0) (e_op0 := show G105 15 = op0 from ((hF110.1 15 rfl).trans (e_op0))) (nd := nd) (e_nd := show G105 31 = nd from ((hF110.1 31 rfl).trans (e_nd))) (tk0 := tk2_108) (e_tk0 := show G105 11 = tk2_108 from (e112))    (p_0 := by omega) (p_1 := by omega) (p_2 := by omega) (p_3 := by omega) (p_4 := by omega) (p_5 := by omega)) (fun o V' hq => ?_)
              obtain ⟨G119, A120, r121, at2_122, fk2_123, op2_124, nd2_125, tk2_126, rfl, rfl, hW127, hF128, hQ129, b130, e131, e132, e133, e134, e135, p136, p137, p138, p139, p140, p141, q142⟩ := hq
              have hF143 := Fr_tr hF117 hF128 (Fr_sub (by decide)) (Fr_sub (by decide))
              have hP144 := Pf_tr hP118 hQ129 (by omega)
              have bat2_122 : (0 : Int) ≤ at2_122 ∧ at2_122 ≤ 3002 := e131 ▸ hW127.1 10
              have bfk2_123 : (0 : Int) ≤ fk2_123 ∧ fk2_123 ≤ 6 := e132 ▸ hW127.1 16
              have bop2_124 : (-2147483648 : Int) ≤ op2_124 ∧ op2_124 ≤ 2147483647 := e133 ▸ hW127.1 15
              have bnd2_125 : (0 : Int) ≤ nd2_125 ∧ nd2_125 ≤ 6999 := e134 ▸ hW127.1 31
              have ztk2_126 := tz_b tk2_126
              have btk2_126 : (0 : Int) ≤ tk2_126 ∧ tk2_126 ≤ 5 := e135 ▸ hW127.1 11
              refine .inr ⟨_, rfl, ?_⟩
              rcases q142 with ⟨a145, a146, a147, a148, a149, a150⟩ | ⟨a151, a152, a153⟩ | ⟨a154, a155, a156⟩
              · have _q : True := trivial
                exfalso
                omega
              · have _q : True := trivial
                refine jx_ld (pc' := 52) (l' := jSto1 L104 2 (.int (i32 (r121)))) (st' := []) rfl rfl ?_
                obtain ⟨L157, eL157⟩ : ∃ q, q = jSto1 L104 2 (.int (i32 (r121))) := ⟨_, rfl⟩
                rw [← eL157]
                have gL157_0 : jGet L157 0 = some (.ref 66) := eL157 ▸ jg_ne (by decide) gL104_0 rfl
                have gL157_1 : jGet L157 1 = some (.int (i32 (6))) := eL157 ▸ jg_ne (by decide) gL104_1 rfl
                have gL157_2 : jGet L157 2 = some (.int (i32 (r121))) := eL157 ▸ jg_eq
                refine jx_ld (pc' := 53) (l' := L157) (st' := [.ref 66]) rfl (jl_aloadn gL157_0) ?_
                refine jx_ld (pc' := 54) (l' := L157) (st' := [.int (i32 (6)), .ref 66]) rfl (jl_iloadn gL157_1) ?_
                refine jx_ld (pc' := 55) (l' := L157) (st' := [.int (i32 (r121)), .int (i32 (6)), .ref 66]) rfl (jl_iloadn gL157_2) ?_
                refine jx_ar (pc' := 56) (st' := [.int (i32 (0)), .int (i32 (r121)), .int (i32 (6)), .ref 66]) rfl rfl rfl rfl ?_
                refine jx_ar (pc' := 57) (st' := [.int (i32 (0)), .int (i32 (0)), .int (i32 (r121)), .int (i32 (6)), .ref 66]) rfl rfl rfl rfl ?_
                refine jx_ar (pc' := 58) (st' := [.int (i32 (0)), .int (i32 (0)), .int (i32 (0)), .int (i32 (r121)), .int (i32 (6)), .ref 66]) rfl rfl rfl rfl ?_
                refine jx_vr (pc' := 61) (as := [.int (i32 (6)), .int (i32 (r121)), .int (i32 (0)), .int (i32 (0)), .int (i32 (0))]) (st := []) rfl rfl rfl rfl ⟨rfl, rfl, Nat.le_of_ble_eq_true rfl⟩ rfl rfl (c_node (dd := d) (hd := by omega) (hW := hW127) (kind := 6) (a := r121) (b := 0) (c := 0) (e := 0) (nd := nd2_125) (e_nd := show G119 31 = nd2_125 from (e134))  (h_kind := ⟨(by decide), (by decide)⟩) (h_a := ⟨(Int.le_trans (by decide : (-2147483648 : Int) ≤ -2147483648) b130.1), (Int.le_trans b130.2 (by decide : (2147483647 : Int) ≤ 2147483647))⟩) (h_b := ⟨(by decide), (by decide)⟩) (h_c := ⟨(by decide), (by decide)⟩) (h_e := ⟨(by decide), (by decide)⟩)  (p_0 := by omega) (p_1 := by omega)) (fun o V' hq => ?_)
                obtain ⟨G158, A159, nd2_160, rfl, rfl, hW161, hF162, hQ163, e164, p165, -⟩ := hq
                have hF167 := Fr_tr hF143 hF162 (Fr_sub (by decide)) (Fr_sub (by decide))
                have hP168 := Pf_tr hP144 hQ163 (by omega)
                have bnd2_160 : (0 : Int) ≤ nd2_160 ∧ nd2_160 ≤ 6999 := e164 ▸ hW161.1 31
                refine .inr ⟨_, rfl, ?_⟩
                refine jx_rt (v := some (.int (i32 (nd2_125)))) rfl rfl rfl rfl rfl rfl ?_
                have z169 := tz_f (tk2_126)
                exact ⟨_, _, _, at2_122, fk2_123, op2_124, nd2_160, tk2_126, rfl, rfl, hW161, hF167, hP168, by omega, ((hF162.1 10 rfl).trans (e131)), ((hF162.1 16 rfl).trans (e132)), ((hF162.1 15 rfl).trans (e133)), (e164), ((hF162.1 11 rfl).trans (e135)), by omega, by omega, by omega, by omega, by omega, by omega, by first | exact Or.inl (⟨by omega, by omega, by omega, by omega, by omega, by omega⟩) | exact Or.inr (Or.inl (⟨by omega, by omega, by omega⟩)) | exact Or.inr (Or.inr ((⟨by omega, by omega, by omega⟩)))⟩
              · have _q : True := trivial
                refine jx_ld (pc' := 52) (l' := jSto1 L104 2 (.int (i32 (r121)))) (st' := []) rfl rfl ?_
                obtain ⟨L170, eL170⟩ : ∃ q, q = jSto1 L104 2 (.int (i32 (r121))) := ⟨_, rfl⟩
                rw [← eL170]
                have gL170_0 : jGet L170 0 = some (.ref 66) := eL170 ▸ jg_ne (by decide) gL104_0 rfl
                have gL170_1 : jGet L170 1 = some (.int (i32 (6))) := eL170 ▸ jg_ne (by decide) gL104_1 rfl
                have gL170_2 : jGet L170 2 = some (.int (i32 (r121))) := eL170 ▸ jg_eq
                refine jx_ld (pc' := 53) (l' := L170) (st' := [.ref 66]) rfl (jl_aloadn gL170_0) ?_
                refine jx_ld (pc' := 54) (l' := L170) (st' := [.int (i32 (6)), .ref 66]) rfl (jl_iloadn gL170_1) ?_
                refine jx_ld (pc' := 55) (l' := L170) (st' := [.int (i32 (r121)), .int (i32 (6)), .ref 66]) rfl (jl_iloadn gL170_2) ?_
                refine jx_ar (pc' := 56) (st' := [.int (i32 (0)), .int (i32 (r121)), .int (i32 (6)), .ref 66]) rfl rfl rfl rfl ?_
                refine jx_ar (pc' := 57) (st' := [.int (i32 (0)), .int (i32 (0)), .int (i32 (r121)), .int (i32 (6)), .ref 66]) rfl rfl rfl rfl ?_
                refine jx_ar (pc' := 58) (st' := [.int (i32 (0)), .int (i32 (0)), .int (i32 (0)), .int (i32 (r121)), .int (i32 (6)), .ref 66]) rfl rfl rfl rfl ?_
                refine jx_vr (pc' := 61) (as := [.int (i32 (6)), .int (i32 (r121)), .int (i32 (0)), .int (i32 (0)), .int (i32 (0))]) (st := []) rfl rfl rfl rfl ⟨rfl, rfl, Nat.le_of_ble_eq_true rfl⟩ rfl rfl (c_node (dd := d) (hd := by omega) (hW := hW127) (kind := 6) (a := r121) (b := 0) (c := 0) (e := 0) (nd := nd2_125) (e_nd := show G119 31 = nd2_125 from (e134))  (h_kind := ⟨(by decide), (by decide)⟩) (h_a := ⟨(Int.le_trans (by decide : (-2147483648 : Int) ≤ -2147483648) b130.1), (Int.le_trans b130.2 (by decide : (2147483647 : Int) ≤ 2147483647))⟩) (h_b := ⟨(by decide), (by decide)⟩) (h_c := ⟨(by decide), (by decide)⟩) (h_e := ⟨(by decide), (by decide)⟩)  (p_0 := by omega) (p_1 := by omega)) (fun o V' hq => ?_)
                obtain ⟨G171, A172, nd2_173, rfl, rfl, hW174, hF175, hQ176, e177, p178, -⟩ := hq
                have hF180 := Fr_tr hF143 hF175 (Fr_sub (by decide)) (Fr_sub (by decide))
                have hP181 := Pf_tr hP144 hQ176 (by omega)
                have bnd2_173 : (0 : Int) ≤ nd2_173 ∧ nd2_173 ≤ 6999 := e177 ▸ hW174.1 31
                refine .inr ⟨_, rfl, ?_⟩
                refine jx_rt (v := some (.int (i32 (nd2_125)))) rfl rfl rfl rfl rfl rfl ?_
                have z182 := tz_f (tk2_126)
                exact ⟨_, _, _, at2_122, fk2_123, op2_124, nd2_173, tk2_126, rfl, rfl, hW174, hF180, hP181, by omega, ((hF175.1 10 rfl).trans (e131)), ((hF175.1 16 rfl).trans (e132)), ((hF175.1 15 rfl).trans (e133)), (e177), ((hF175.1 11 rfl).trans (e135)), by omega, by omega, by omega, by omega, by omega, by omega, by first | exact Or.inl (⟨by omega, by omega, by omega, by omega, by omega, by omega⟩) | exact Or.inr (Or.inl (⟨by omega, by omega, by omega⟩)) | exact Or.inr (Or.inr ((⟨by omega, by omega, by omega⟩)))⟩
            · have _q := h103
              exact absurd h103 (by omega)
        · have _q := h16
          exact absurd h16 (by omega)
      · have _q : True := trivial
        refine jx_if_ne (pc' := 18) (tg := 27) rfl rfl rfl (by decide) (by decide) (fun h183 => ?_) (fun h183 => ?_)
        · have _q := h183
          exact absurd h183 (by omega)
        · have _q := h183
          refine jx_ld (pc' := 19) (l' := [(0, .ref 66)]) (st' := [.ref 66]) rfl (jl_aloadn rfl) ?_
          refine jx_ar (pc' := 21) (st' := [.int (i32 (16)), .ref 66]) rfl rfl rfl rfl ?_
          refine jx_vr (pc' := 24) (as := [.int (i32 (16))]) (st := []) rfl rfl rfl rfl ⟨rfl, rfl, Nat.le_of_ble_eq_true rfl⟩ rfl rfl (c_isKey (dd := d) (hd := by omega) (hW := hW) (k := 16) (tk := tk0) (e_tk := show G 11 = tk0 from (e_tk0)) (tn := G 13) (e_tn := show G 13 = G 13 from rfl)  (h_k := ⟨(by decide), (by decide)⟩)  ) (fun o V' hq => ?_)
          obtain ⟨r184, rfl, rfl, b185, q186⟩ := hq
          refine .inr ⟨_, rfl, ?_⟩
          rcases q186 with ⟨rfl, a187, a188, a189⟩ | rfl
          · have _q : True := trivial
            refine jx_if_eq (pc' := 27) (tg := 62) rfl rfl rfl (by decide) (by decide) (fun h190 => ?_) (fun h190 => ?_)
            · have _q := h190
              exact absurd h190 (by omega)
            · have _q := h190
              refine jx_ld (pc' := 28) (l' := [(0, .ref 66)]) (st' := [.ref 66]) rfl (jl_aloadn rfl) ?_
              refine jx_ar (pc' := 30) (st' := [.int (i32 (45)), .ref 66]) rfl rfl rfl rfl ?_
              refine jx_vr (pc' := 33) (as := [.int (i32 (45))]) (st := []) rfl rfl rfl rfl ⟨rfl, rfl, Nat.le_of_ble_eq_true rfl⟩ rfl rfl (c_is (dd := d) (hd := by omega) (hW := hW) (k := 45) (tk := tk0) (e_tk := show G 11 = tk0 from (e_tk0)) (tn := G 13) (e_tn := show G 13 = G 13 from rfl)  (h_k := ⟨(by decide), (by decide)⟩)  ) (fun o V' hq => ?_)
              obtain ⟨r191, rfl, rfl, b192, q193⟩ := hq
              refine .inr ⟨_, rfl, ?_⟩
              rcases q193 with ⟨rfl, a194, a195, a196⟩ | rfl
              · have _q : True := trivial
                refine jx_if_eq (pc' := 36) (tg := 40) rfl rfl rfl (by decide) (by decide) (fun h197 => ?_) (fun h197 => ?_)
                · have _q := h197
                  exact absurd h197 (by omega)
                · have _q := h197
                  refine jx_ar (pc' := 37) (st' := [.int (i32 (5))]) rfl rfl rfl rfl ?_
                  refine jx_go (tg := 42) rfl rfl ?_
                  refine jx_ld (pc' := 43) (l' := jSto1 [(0, .ref 66)] 1 (.int (i32 (5)))) (st' := []) rfl rfl ?_
                  obtain ⟨L198, eL198⟩ : ∃ q, q = jSto1 [(0, .ref 66)] 1 (.int (i32 (5))) := ⟨_, rfl⟩
                  rw [← eL198]
                  have gL198_0 : jGet L198 0 = some (.ref 66) := eL198 ▸ jg_ne (by decide) (rfl : jGet [(0, .ref 66)] 0 = some (.ref 66)) rfl
                  have gL198_1 : jGet L198 1 = some (.int (i32 (5))) := eL198 ▸ jg_eq
                  refine jx_ld (pc' := 44) (l' := L198) (st' := [.ref 66]) rfl (jl_aloadn gL198_0) ?_
                  refine jx_vr (pc' := 47) (as := []) (st := []) rfl rfl rfl rfl ⟨rfl, rfl, Nat.le_of_ble_eq_true rfl⟩ rfl rfl (c_next (dd := d) (hd := by omega) (hW := hW)  (ln := ln) (e_ln := show G 9 = ln from (e_ln)) (le := le) (e_le := show A 4 (ln).toNat = le from (e_le)) (at0 := at0) (e_at0 := show G 10 = at0 from (e_at0))    (p_0 := by omega)) (fun o V' hq => ?_)
                  obtain ⟨G199, A200, at2_201, tk2_202, rfl, rfl, hW203, hF204, e205, e206, p207, p208, p209, -⟩ := hq
                  have hF211 := Fr_tr hF0 hF204 (Fr_sub (by decide)) (Fr_sub (by decide))
                  have hP212 := Pf_f hP0 hF204 (by decide)
                  have bat2_201 : (0 : Int) ≤ at2_201 ∧ at2_201 ≤ 3002 := e205 ▸ hW203.1 10
                  have ztk2_202 := tz_b tk2_202
                  have btk2_202 : (0 : Int) ≤ tk2_202 ∧ tk2_202 ≤ 5 := e206 ▸ hW203.1 11
                  refine .inl ⟨rfl, ?_⟩
                  refine jx_ld (pc' := 48) (l' := L198) (st' := [.ref 66]) rfl (jl_aloadn gL198_0) ?_
                  refine jx_vr (pc' := 51) (as := []) (st := []) rfl rfl rfl rfl ⟨rfl, rfl, Nat.le_of_ble_eq_true rfl⟩ rfl rfl (c_readOperand (dd := d) (hE := hE) (hd := by omega) (hW := hW203)  (ln := ln) (e_ln := show G199 9 = ln from ((hF204.1 9 rfl).trans (e_ln))) (le := le) (e_le := show A200 4 (ln).toNat = le from (congrFun (hF204.2 4 rfl) _).trans (e_le)) (at0 := at2_201) (e_at0 := show G199 10 = at2_201 from (e205)) (fk := fk) (e_fk := show G199 16 = fk from ((hF204.1 16 rfl).trans (e_fk))) (op0 := op0) (e_op0 := show G199 15 = op0 from ((hF204.1 15 rfl).trans (e_op0))) (nd := nd) (e_nd := show G199 31 = nd from ((hF204.1 31 rfl).trans (e_nd))) (tk0 := tk2_202) (e_tk0 := show G199 11 = tk2_202 from (e206))    (p_0 := by omega) (p_1 := by omega) (p_2 := by omega) (p_3 := by omega) (p_4 := by omega) (p_5 := by omega)) (fun o V' hq => ?_)
                  obtain ⟨G213, A214, r215, at2_216, fk2_217, op2_218, nd2_219, tk2_220, rfl, rfl, hW221, hF222, hQ223, b224, e225, e226, e227, e228, e229, p230, p231, p232, p233, p234, p235, q236⟩ := hq
                  have hF237 := Fr_tr hF211 hF222 (Fr_sub (by decide)) (Fr_sub (by decide))
                  have hP238 := Pf_tr hP212 hQ223 (by omega)
                  have bat2_216 : (0 : Int) ≤ at2_216 ∧ at2_216 ≤ 3002 := e225 ▸ hW221.1 10
                  have bfk2_217 : (0 : Int) ≤ fk2_217 ∧ fk2_217 ≤ 6 := e226 ▸ hW221.1 16
                  have bop2_218 : (-2147483648 : Int) ≤ op2_218 ∧ op2_218 ≤ 2147483647 := e227 ▸ hW221.1 15
                  have bnd2_219 : (0 : Int) ≤ nd2_219 ∧ nd2_219 ≤ 6999 := e228 ▸ hW221.1 31
                  have ztk2_220 := tz_b tk2_220
                  have btk2_220 : (0 : Int) ≤ tk2_220 ∧ tk2_220 ≤ 5 := e229 ▸ hW221.1 11
                  refine .inr ⟨_, rfl, ?_⟩
                  rcases q236 with ⟨a239, a240, a241, a242, a243, a244⟩ | ⟨a245, a246, a247⟩ | ⟨a248, a249, a250⟩
                  · have _q : True := trivial
                    exfalso
                    omega
                  · have _q : True := trivial
                    refine jx_ld (pc' := 52) (l' := jSto1 L198 2 (.int (i32 (r215)))) (st' := []) rfl rfl ?_
                    obtain ⟨L251, eL251⟩ : ∃ q, q = jSto1 L198 2 (.int (i32 (r215))) := ⟨_, rfl⟩
                    rw [← eL251]
                    have gL251_0 : jGet L251 0 = some (.ref 66) := eL251 ▸ jg_ne (by decide) gL198_0 rfl
                    have gL251_1 : jGet L251 1 = some (.int (i32 (5))) := eL251 ▸ jg_ne (by decide) gL198_1 rfl
                    have gL251_2 : jGet L251 2 = some (.int (i32 (r215))) := eL251 ▸ jg_eq
                    refine jx_ld (pc' := 53) (l' := L251) (st' := [.ref 66]) rfl (jl_aloadn gL251_0) ?_
                    refine jx_ld (pc' := 54) (l' := L251) (st' := [.int (i32 (5)), .ref 66]) rfl (jl_iloadn gL251_1) ?_
                    refine jx_ld (pc' := 55) (l' := L251) (st' := [.int (i32 (r215)), .int (i32 (5)), .ref 66]) rfl (jl_iloadn gL251_2) ?_
                    refine jx_ar (pc' := 56) (st' := [.int (i32 (0)), .int (i32 (r215)), .int (i32 (5)), .ref 66]) rfl rfl rfl rfl ?_
                    refine jx_ar (pc' := 57) (st' := [.int (i32 (0)), .int (i32 (0)), .int (i32 (r215)), .int (i32 (5)), .ref 66]) rfl rfl rfl rfl ?_
                    refine jx_ar (pc' := 58) (st' := [.int (i32 (0)), .int (i32 (0)), .int (i32 (0)), .int (i32 (r215)), .int (i32 (5)), .ref 66]) rfl rfl rfl rfl ?_
                    refine jx_vr (pc' := 61) (as := [.int (i32 (5)), .int (i32 (r215)), .int (i32 (0)), .int (i32 (0)), .int (i32 (0))]) (st := []) rfl rfl rfl rfl ⟨rfl, rfl, Nat.le_of_ble_eq_true rfl⟩ rfl rfl (c_node (dd := d) (hd := by omega) (hW := hW221) (kind := 5) (a := r215) (b := 0) (c := 0) (e := 0) (nd := nd2_219) (e_nd := show G213 31 = nd2_219 from (e228))  (h_kind := ⟨(by decide), (by decide)⟩) (h_a := ⟨(Int.le_trans (by decide : (-2147483648 : Int) ≤ -2147483648) b224.1), (Int.le_trans b224.2 (by decide : (2147483647 : Int) ≤ 2147483647))⟩) (h_b := ⟨(by decide), (by decide)⟩) (h_c := ⟨(by decide), (by decide)⟩) (h_e := ⟨(by decide), (by decide)⟩)  (p_0 := by omega) (p_1 := by omega)) (fun o V' hq => ?_)
                    obtain ⟨G252, A253, nd2_254, rfl, rfl, hW255, hF256, hQ257, e258, p259, -⟩ := hq
                    have hF261 := Fr_tr hF237 hF256 (Fr_sub (by decide)) (Fr_sub (by decide))
                    have hP262 := Pf_tr hP238 hQ257 (by omega)
                    have bnd2_254 : (0 : Int) ≤ nd2_254 ∧ nd2_254 ≤ 6999 := e258 ▸ hW255.1 31
                    refine .inr ⟨_, rfl, ?_⟩
                    refine jx_rt (v := some (.int (i32 (nd2_219)))) rfl rfl rfl rfl rfl rfl ?_
                    have z263 := tz_f (tk2_220)
                    exact ⟨_, _, _, at2_216, fk2_217, op2_218, nd2_254, tk2_220, rfl, rfl, hW255, hF261, hP262, by omega, ((hF256.1 10 rfl).trans (e225)), ((hF256.1 16 rfl).trans (e226)), ((hF256.1 15 rfl).trans (e227)), (e258), ((hF256.1 11 rfl).trans (e229)), by omega, by omega, by omega, by omega, by omega, by omega, by first | exact Or.inl (⟨by omega, by omega, by omega, by omega, by omega, by omega⟩) | exact Or.inr (Or.inl (⟨by omega, by omega, by omega⟩)) | exact Or.inr (Or.inr ((⟨by omega, by omega, by omega⟩)))⟩
                  · have _q : True := trivial
                    refine jx_ld (pc' := 52) (l' := jSto1 L198 2 (.int (i32 (r215)))) (st' := []) rfl rfl ?_
                    obtain ⟨L264, eL264⟩ : ∃ q, q = jSto1 L198 2 (.int (i32 (r215))) := ⟨_, rfl⟩
                    rw [← eL264]
                    have gL264_0 : jGet L264 0 = some (.ref 66) := eL264 ▸ jg_ne (by decide) gL198_0 rfl
                    have gL264_1 : jGet L264 1 = some (.int (i32 (5))) := eL264 ▸ jg_ne (by decide) gL198_1 rfl
                    have gL264_2 : jGet L264 2 = some (.int (i32 (r215))) := eL264 ▸ jg_eq
                    refine jx_ld (pc' := 53) (l' := L264) (st' := [.ref 66]) rfl (jl_aloadn gL264_0) ?_
                    refine jx_ld (pc' := 54) (l' := L264) (st' := [.int (i32 (5)), .ref 66]) rfl (jl_iloadn gL264_1) ?_
                    refine jx_ld (pc' := 55) (l' := L264) (st' := [.int (i32 (r215)), .int (i32 (5)), .ref 66]) rfl (jl_iloadn gL264_2) ?_
                    refine jx_ar (pc' := 56) (st' := [.int (i32 (0)), .int (i32 (r215)), .int (i32 (5)), .ref 66]) rfl rfl rfl rfl ?_
                    refine jx_ar (pc' := 57) (st' := [.int (i32 (0)), .int (i32 (0)), .int (i32 (r215)), .int (i32 (5)), .ref 66]) rfl rfl rfl rfl ?_
                    refine jx_ar (pc' := 58) (st' := [.int (i32 (0)), .int (i32 (0)), .int (i32 (0)), .int (i32 (r215)), .int (i32 (5)), .ref 66]) rfl rfl rfl rfl ?_
                    refine jx_vr (pc' := 61) (as := [.int (i32 (5)), .int (i32 (r215)), .int (i32 (0)), .int (i32 (0)), .int (i32 (0))]) (st := []) rfl rfl rfl rfl ⟨rfl, rfl, Nat.le_of_ble_eq_true rfl⟩ rfl rfl (c_node (dd := d) (hd := by omega) (hW := hW221) (kind := 5) (a := r215) (b := 0) (c := 0) (e := 0) (nd := nd2_219) (e_nd := show G213 31 = nd2_219 from (e228))  (h_kind := ⟨(by decide), (by decide)⟩) (h_a := ⟨(Int.le_trans (by decide : (-2147483648 : Int) ≤ -2147483648) b224.1), (Int.le_trans b224.2 (by decide : (2147483647 : Int) ≤ 2147483647))⟩) (h_b := ⟨(by decide), (by decide)⟩) (h_c := ⟨(by decide), (by decide)⟩) (h_e := ⟨(by decide), (by decide)⟩)  (p_0 := by omega) (p_1 := by omega)) (fun o V' hq => ?_)
                    obtain ⟨G265, A266, nd2_267, rfl, rfl, hW268, hF269, hQ270, e271, p272, -⟩ := hq
                    have hF274 := Fr_tr hF237 hF269 (Fr_sub (by decide)) (Fr_sub (by decide))
                    have hP275 := Pf_tr hP238 hQ270 (by omega)
                    have bnd2_267 : (0 : Int) ≤ nd2_267 ∧ nd2_267 ≤ 6999 := e271 ▸ hW268.1 31
                    refine .inr ⟨_, rfl, ?_⟩
                    refine jx_rt (v := some (.int (i32 (nd2_219)))) rfl rfl rfl rfl rfl rfl ?_
                    have z276 := tz_f (tk2_220)
                    exact ⟨_, _, _, at2_216, fk2_217, op2_218, nd2_267, tk2_220, rfl, rfl, hW268, hF274, hP275, by omega, ((hF269.1 10 rfl).trans (e225)), ((hF269.1 16 rfl).trans (e226)), ((hF269.1 15 rfl).trans (e227)), (e271), ((hF269.1 11 rfl).trans (e229)), by omega, by omega, by omega, by omega, by omega, by omega, by first | exact Or.inl (⟨by omega, by omega, by omega, by omega, by omega, by omega⟩) | exact Or.inr (Or.inl (⟨by omega, by omega, by omega⟩)) | exact Or.inr (Or.inr ((⟨by omega, by omega, by omega⟩)))⟩
              · have _q : True := trivial
                refine jx_if_eq (pc' := 36) (tg := 40) rfl rfl rfl (by decide) (by decide) (fun h277 => ?_) (fun h277 => ?_)
                · have _q := h277
                  refine jx_ar (pc' := 42) (st' := [.int (i32 (6))]) rfl rfl rfl rfl ?_
                  refine jx_ld (pc' := 43) (l' := jSto1 [(0, .ref 66)] 1 (.int (i32 (6)))) (st' := []) rfl rfl ?_
                  obtain ⟨L278, eL278⟩ : ∃ q, q = jSto1 [(0, .ref 66)] 1 (.int (i32 (6))) := ⟨_, rfl⟩
                  rw [← eL278]
                  have gL278_0 : jGet L278 0 = some (.ref 66) := eL278 ▸ jg_ne (by decide) (rfl : jGet [(0, .ref 66)] 0 = some (.ref 66)) rfl
                  have gL278_1 : jGet L278 1 = some (.int (i32 (6))) := eL278 ▸ jg_eq
                  refine jx_ld (pc' := 44) (l' := L278) (st' := [.ref 66]) rfl (jl_aloadn gL278_0) ?_
                  refine jx_vr (pc' := 47) (as := []) (st := []) rfl rfl rfl rfl ⟨rfl, rfl, Nat.le_of_ble_eq_true rfl⟩ rfl rfl (c_next (dd := d) (hd := by omega) (hW := hW)  (ln := ln) (e_ln := show G 9 = ln from (e_ln)) (le := le) (e_le := show A 4 (ln).toNat = le from (e_le)) (at0 := at0) (e_at0 := show G 10 = at0 from (e_at0))    (p_0 := by omega)) (fun o V' hq => ?_)
                  obtain ⟨G279, A280, at2_281, tk2_282, rfl, rfl, hW283, hF284, e285, e286, p287, p288, p289, -⟩ := hq
                  have hF291 := Fr_tr hF0 hF284 (Fr_sub (by decide)) (Fr_sub (by decide))
                  have hP292 := Pf_f hP0 hF284 (by decide)
                  have bat2_281 : (0 : Int) ≤ at2_281 ∧ at2_281 ≤ 3002 := e285 ▸ hW283.1 10
                  have ztk2_282 := tz_b tk2_282
                  have btk2_282 : (0 : Int) ≤ tk2_282 ∧ tk2_282 ≤ 5 := e286 ▸ hW283.1 11
                  refine .inl ⟨rfl, ?_⟩
                  refine jx_ld (pc' := 48) (l' := L278) (st' := [.ref 66]) rfl (jl_aloadn gL278_0) ?_
                  refine jx_vr (pc' := 51) (as := []) (st := []) rfl rfl rfl rfl ⟨rfl, rfl, Nat.le_of_ble_eq_true rfl⟩ rfl rfl (c_readOperand (dd := d) (hE := hE) (hd := by omega) (hW := hW283)  (ln := ln) (e_ln := show G279 9 = ln from ((hF284.1 9 rfl).trans (e_ln))) (le := le) (e_le := show A280 4 (ln).toNat = le from (congrFun (hF284.2 4 rfl) _).trans (e_le)) (at0 := at2_281) (e_at0 := show G279 10 = at2_281 from (e285)) (fk := fk) (e_fk := show G279 16 = fk from ((hF284.1 16 rfl).trans (e_fk))) (op0 := op0) (e_op0 := show G279 15 = op0 from ((hF284.1 15 rfl).trans (e_op0))) (nd := nd) (e_nd := show G279 31 = nd from ((hF284.1 31 rfl).trans (e_nd))) (tk0 := tk2_282) (e_tk0 := show G279 11 = tk2_282 from (e286))    (p_0 := by omega) (p_1 := by omega) (p_2 := by omega) (p_3 := by omega) (p_4 := by omega) (p_5 := by omega)) (fun o V' hq => ?_)
                  obtain ⟨G293, A294, r295, at2_296, fk2_297, op2_298, nd2_299, tk2_300, rfl, rfl, hW301, hF302, hQ303, b304, e305, e306, e307, e308, e309, p310, p311, p312, p313, p314, p315, q316⟩ := hq
                  have hF317 := Fr_tr hF291 hF302 (Fr_sub (by decide)) (Fr_sub (by decide))
                  have hP318 := Pf_tr hP292 hQ303 (by omega)
                  have bat2_296 : (0 : Int) ≤ at2_296 ∧ at2_296 ≤ 3002 := e305 ▸ hW301.1 10
                  have bfk2_297 : (0 : Int) ≤ fk2_297 ∧ fk2_297 ≤ 6 := e306 ▸ hW301.1 16
                  have bop2_298 : (-2147483648 : Int) ≤ op2_298 ∧ op2_298 ≤ 2147483647 := e307 ▸ hW301.1 15
                  have bnd2_299 : (0 : Int) ≤ nd2_299 ∧ nd2_299 ≤ 6999 := e308 ▸ hW301.1 31
                  have ztk2_300 := tz_b tk2_300
                  have btk2_300 : (0 : Int) ≤ tk2_300 ∧ tk2_300 ≤ 5 := e309 ▸ hW301.1 11
                  refine .inr ⟨_, rfl, ?_⟩
                  rcases q316 with ⟨a319, a320, a321, a322, a323, a324⟩ | ⟨a325, a326, a327⟩ | ⟨a328, a329, a330⟩
                  · have _q : True := trivial
                    exfalso
                    omega
                  · have _q : True := trivial
                    refine jx_ld (pc' := 52) (l' := jSto1 L278 2 (.int (i32 (r295)))) (st' := []) rfl rfl ?_
                    obtain ⟨L331, eL331⟩ : ∃ q, q = jSto1 L278 2 (.int (i32 (r295))) := ⟨_, rfl⟩
                    rw [← eL331]
                    have gL331_0 : jGet L331 0 = some (.ref 66) := eL331 ▸ jg_ne (by decide) gL278_0 rfl
                    have gL331_1 : jGet L331 1 = some (.int (i32 (6))) := eL331 ▸ jg_ne (by decide) gL278_1 rfl
                    have gL331_2 : jGet L331 2 = some (.int (i32 (r295))) := eL331 ▸ jg_eq
                    refine jx_ld (pc' := 53) (l' := L331) (st' := [.ref 66]) rfl (jl_aloadn gL331_0) ?_
                    refine jx_ld (pc' := 54) (l' := L331) (st' := [.int (i32 (6)), .ref 66]) rfl (jl_iloadn gL331_1) ?_
                    refine jx_ld (pc' := 55) (l' := L331) (st' := [.int (i32 (r295)), .int (i32 (6)), .ref 66]) rfl (jl_iloadn gL331_2) ?_
                    refine jx_ar (pc' := 56) (st' := [.int (i32 (0)), .int (i32 (r295)), .int (i32 (6)), .ref 66]) rfl rfl rfl rfl ?_
                    refine jx_ar (pc' := 57) (st' := [.int (i32 (0)), .int (i32 (0)), .int (i32 (r295)), .int (i32 (6)), .ref 66]) rfl rfl rfl rfl ?_
                    refine jx_ar (pc' := 58) (st' := [.int (i32 (0)), .int (i32 (0)), .int (i32 (0)), .int (i32 (r295)), .int (i32 (6)), .ref 66]) rfl rfl rfl rfl ?_
                    refine jx_vr (pc' := 61) (as := [.int (i32 (6)), .int (i32 (r295)), .int (i32 (0)), .int (i32 (0)), .int (i32 (0))]) (st := []) rfl rfl rfl rfl ⟨rfl, rfl, Nat.le_of_ble_eq_true rfl⟩ rfl rfl (c_node (dd := d) (hd := by omega) (hW := hW301) (kind := 6) (a := r295) (b := 0) (c := 0) (e := 0) (nd := nd2_299) (e_nd := show G293 31 = nd2_299 from (e308))  (h_kind := ⟨(by decide), (by decide)⟩) (h_a := ⟨(Int.le_trans (by decide : (-2147483648 : Int) ≤ -2147483648) b304.1), (Int.le_trans b304.2 (by decide : (2147483647 : Int) ≤ 2147483647))⟩) (h_b := ⟨(by decide), (by decide)⟩) (h_c := ⟨(by decide), (by decide)⟩) (h_e := ⟨(by decide), (by decide)⟩)  (p_0 := by omega) (p_1 := by omega)) (fun o V' hq => ?_)
                    obtain ⟨G332, A333, nd2_334, rfl, rfl, hW335, hF336, hQ337, e338, p339, -⟩ := hq
                    have hF341 := Fr_tr hF317 hF336 (Fr_sub (by decide)) (Fr_sub (by decide))
                    have hP342 := Pf_tr hP318 hQ337 (by omega)
                    have bnd2_334 : (0 : Int) ≤ nd2_334 ∧ nd2_334 ≤ 6999 := e338 ▸ hW335.1 31
                    refine .inr ⟨_, rfl, ?_⟩
                    refine jx_rt (v := some (.int (i32 (nd2_299)))) rfl rfl rfl rfl rfl rfl ?_
                    have z343 := tz_f (tk2_300)
                    exact ⟨_, _, _, at2_296, fk2_297, op2_298, nd2_334, tk2_300, rfl, rfl, hW335, hF341, hP342, by omega, ((hF336.1 10 rfl).trans (e305)), ((hF336.1 16 rfl).trans (e306)), ((hF336.1 15 rfl).trans (e307)), (e338), ((hF336.1 11 rfl).trans (e309)), by omega, by omega, by omega, by omega, by omega, by omega, by first | exact Or.inl (⟨by omega, by omega, by omega, by omega, by omega, by omega⟩) | exact Or.inr (Or.inl (⟨by omega, by omega, by omega⟩)) | exact Or.inr (Or.inr ((⟨by omega, by omega, by omega⟩)))⟩
                  · have _q : True := trivial
                    refine jx_ld (pc' := 52) (l' := jSto1 L278 2 (.int (i32 (r295)))) (st' := []) rfl rfl ?_
                    obtain ⟨L344, eL344⟩ : ∃ q, q = jSto1 L278 2 (.int (i32 (r295))) := ⟨_, rfl⟩
                    rw [← eL344]
                    have gL344_0 : jGet L344 0 = some (.ref 66) := eL344 ▸ jg_ne (by decide) gL278_0 rfl
                    have gL344_1 : jGet L344 1 = some (.int (i32 (6))) := eL344 ▸ jg_ne (by decide) gL278_1 rfl
                    have gL344_2 : jGet L344 2 = some (.int (i32 (r295))) := eL344 ▸ jg_eq
                    refine jx_ld (pc' := 53) (l' := L344) (st' := [.ref 66]) rfl (jl_aloadn gL344_0) ?_
                    refine jx_ld (pc' := 54) (l' := L344) (st' := [.int (i32 (6)), .ref 66]) rfl (jl_iloadn gL344_1) ?_
                    refine jx_ld (pc' := 55) (l' := L344) (st' := [.int (i32 (r295)), .int (i32 (6)), .ref 66]) rfl (jl_iloadn gL344_2) ?_
                    refine jx_ar (pc' := 56) (st' := [.int (i32 (0)), .int (i32 (r295)), .int (i32 (6)), .ref 66]) rfl rfl rfl rfl ?_
                    refine jx_ar (pc' := 57) (st' := [.int (i32 (0)), .int (i32 (0)), .int (i32 (r295)), .int (i32 (6)), .ref 66]) rfl rfl rfl rfl ?_
                    refine jx_ar (pc' := 58) (st' := [.int (i32 (0)), .int (i32 (0)), .int (i32 (0)), .int (i32 (r295)), .int (i32 (6)), .ref 66]) rfl rfl rfl rfl ?_
                    refine jx_vr (pc' := 61) (as := [.int (i32 (6)), .int (i32 (r295)), .int (i32 (0)), .int (i32 (0)), .int (i32 (0))]) (st := []) rfl rfl rfl rfl ⟨rfl, rfl, Nat.le_of_ble_eq_true rfl⟩ rfl rfl (c_node (dd := d) (hd := by omega) (hW := hW301) (kind := 6) (a := r295) (b := 0) (c := 0) (e := 0) (nd := nd2_299) (e_nd := show G293 31 = nd2_299 from (e308))  (h_kind := ⟨(by decide), (by decide)⟩) (h_a := ⟨(Int.le_trans (by decide : (-2147483648 : Int) ≤ -2147483648) b304.1), (Int.le_trans b304.2 (by decide : (2147483647 : Int) ≤ 2147483647))⟩) (h_b := ⟨(by decide), (by decide)⟩) (h_c := ⟨(by decide), (by decide)⟩) (h_e := ⟨(by decide), (by decide)⟩)  (p_0 := by omega) (p_1 := by omega)) (fun o V' hq => ?_)
                    obtain ⟨G345, A346, nd2_347, rfl, rfl, hW348, hF349, hQ350, e351, p352, -⟩ := hq
                    have hF354 := Fr_tr hF317 hF349 (Fr_sub (by decide)) (Fr_sub (by decide))
                    have hP355 := Pf_tr hP318 hQ350 (by omega)
                    have bnd2_347 : (0 : Int) ≤ nd2_347 ∧ nd2_347 ≤ 6999 := e351 ▸ hW348.1 31
                    refine .inr ⟨_, rfl, ?_⟩
                    refine jx_rt (v := some (.int (i32 (nd2_299)))) rfl rfl rfl rfl rfl rfl ?_
                    have z356 := tz_f (tk2_300)
                    exact ⟨_, _, _, at2_296, fk2_297, op2_298, nd2_347, tk2_300, rfl, rfl, hW348, hF354, hP355, by omega, ((hF349.1 10 rfl).trans (e305)), ((hF349.1 16 rfl).trans (e306)), ((hF349.1 15 rfl).trans (e307)), (e351), ((hF349.1 11 rfl).trans (e309)), by omega, by omega, by omega, by omega, by omega, by omega, by first | exact Or.inl (⟨by omega, by omega, by omega, by omega, by omega, by omega⟩) | exact Or.inr (Or.inl (⟨by omega, by omega, by omega⟩)) | exact Or.inr (Or.inr ((⟨by omega, by omega, by omega⟩)))⟩
                · have _q := h277
                  exact absurd h277 (by omega)
          · have _q : True := trivial
            refine jx_if_eq (pc' := 27) (tg := 62) rfl rfl rfl (by decide) (by decide) (fun h357 => ?_) (fun h357 => ?_)
            · have _q := h357
              refine jx_ld (pc' := 63) (l' := [(0, .ref 66)]) (st' := [.ref 66]) rfl (jl_aloadn rfl) ?_
              refine jx_ld (pc' := 64) (l' := [(0, .ref 66)]) (st' := [.ref 66, .ref 66]) rfl (jl_aloadn rfl) ?_
              refine jx_vr (pc' := 67) (as := []) (st := [.ref 66]) rfl rfl rfl rfl ⟨rfl, rfl, Nat.le_of_ble_eq_true rfl⟩ rfl rfl (c_readOperand (dd := d) (hE := hE) (hd := by omega) (hW := hW)  (ln := ln) (e_ln := show G 9 = ln from (e_ln)) (le := le) (e_le := show A 4 (ln).toNat = le from (e_le)) (at0 := at0) (e_at0 := show G 10 = at0 from (e_at0)) (fk := fk) (e_fk := show G 16 = fk from (e_fk)) (op0 := op0) (e_op0 := show G 15 = op0 from (e_op0)) (nd := nd) (e_nd := show G 31 = nd from (e_nd)) (tk0 := tk0) (e_tk0 := show G 11 = tk0 from (e_tk0))    (p_0 := by omega) (p_1 := by omega) (p_2 := by omega) (p_3 := by omega) (p_4 := by omega) (p_5 := by omega)) (fun o V' hq => ?_)
              obtain ⟨G358, A359, r360, at2_361, fk2_362, op2_363, nd2_364, tk2_365, rfl, rfl, hW366, hF367, hQ368, b369, e370, e371, e372, e373, e374, p375, p376, p377, p378, p379, p380, q381⟩ := hq
              have hF382 := Fr_tr hF0 hF367 (Fr_sub (by decide)) (Fr_sub (by decide))
              have hP383 := Pf_tr hP0 hQ368 (by omega)
              have bat2_361 : (0 : Int) ≤ at2_361 ∧ at2_361 ≤ 3002 := e370 ▸ hW366.1 10
              have bfk2_362 : (0 : Int) ≤ fk2_362 ∧ fk2_362 ≤ 6 := e371 ▸ hW366.1 16
              have bop2_363 : (-2147483648 : Int) ≤ op2_363 ∧ op2_363 ≤ 2147483647 := e372 ▸ hW366.1 15
              have bnd2_364 : (0 : Int) ≤ nd2_364 ∧ nd2_364 ≤ 6999 := e373 ▸ hW366.1 31
              have ztk2_365 := tz_b tk2_365
              have btk2_365 : (0 : Int) ≤ tk2_365 ∧ tk2_365 ≤ 5 := e374 ▸ hW366.1 11
              refine .inr ⟨_, rfl, ?_⟩
              rcases q381 with ⟨a384, a385, a386, a387, a388, a389⟩ | ⟨a390, a391, a392⟩ | ⟨a393, a394, a395⟩
              · have _q : True := trivial
                exfalso
                omega
              · have _q : True := trivial
                refine jx_vr (pc' := 70) (as := [.int (i32 (r360))]) (st := []) rfl rfl rfl rfl ⟨rfl, rfl, Nat.le_of_ble_eq_true rfl⟩ rfl rfl (c_readRest (dd := d) (hE := hE) (hd := by omega) (hW := hW366) (x := r360) (ln := ln) (e_ln := show G358 9 = ln from ((hF367.1 9 rfl).trans (e_ln))) (le := le) (e_le := show A359 4 (ln).toNat = le from (congrFun (hF367.2 4 rfl) _).trans (e_le)) (at0 := at2_361) (e_at0 := show G358 10 = at2_361 from (e370)) (fk := fk2_362) (e_fk := show G358 16 = fk2_362 from (e371)) (op0 := op2_363) (e_op0 := show G358 15 = op2_363 from (e372)) (nd := nd2_364) (e_nd := show G358 31 = nd2_364 from (e373)) (tk0 := tk2_365) (e_tk0 := show G358 11 = tk2_365 from (e374))  (h_x := ⟨(Int.le_trans (by decide : (-2147483648 : Int) ≤ -2147483648) b369.1), (Int.le_trans b369.2 (by decide : (2147483647 : Int) ≤ 2147483647))⟩)  (p_0 := by omega) (p_1 := by omega) (p_2 := by omega) (p_3 := by omega) (p_4 := by omega) (p_5 := by omega) (p_6 := by omega) (p_7 := by omega)) (fun o V' hq => ?_)
                obtain ⟨G396, A397, r398, at2_399, fk2_400, op2_401, nd2_402, tk2_403, rfl, rfl, hW404, hF405, hQ406, b407, e408, e409, e410, e411, e412, p413, p414, p415, p416, p417, p418, q419⟩ := hq
                have hF420 := Fr_tr hF382 hF405 (Fr_sub (by decide)) (Fr_sub (by decide))
                have hP421 := Pf_tr hP383 hQ406 (by omega)
                have bat2_399 : (0 : Int) ≤ at2_399 ∧ at2_399 ≤ 3002 := e408 ▸ hW404.1 10
                have bfk2_400 : (0 : Int) ≤ fk2_400 ∧ fk2_400 ≤ 6 := e409 ▸ hW404.1 16
                have bop2_401 : (-2147483648 : Int) ≤ op2_401 ∧ op2_401 ≤ 2147483647 := e410 ▸ hW404.1 15
                have bnd2_402 : (0 : Int) ≤ nd2_402 ∧ nd2_402 ≤ 6999 := e411 ▸ hW404.1 31
                have ztk2_403 := tz_b tk2_403
                have btk2_403 : (0 : Int) ≤ tk2_403 ∧ tk2_403 ≤ 5 := e412 ▸ hW404.1 11
                refine .inr ⟨_, rfl, ?_⟩
                rcases q419 with ⟨a422, a423, a424, a425, a426, a427⟩ | ⟨a428, a429, a430⟩ | ⟨a431, a432, a433⟩
                · have _q : True := trivial
                  refine jx_rt (v := some (.int (i32 (r398)))) rfl rfl rfl rfl rfl rfl ?_
                  have z434 := tz_f (tk2_403)
                  exact ⟨_, _, _, at2_399, fk2_400, op2_401, nd2_402, tk2_403, rfl, rfl, hW404, hF420, hP421, by omega, (e408), (e409), (e410), (e411), (e412), by omega, by omega, by omega, by omega, by omega, by omega, by first | exact Or.inl (⟨by omega, by omega, by omega, by omega, by omega, by omega⟩) | exact Or.inr (Or.inl (⟨by omega, by omega, by omega⟩)) | exact Or.inr (Or.inr ((⟨by omega, by omega, by omega⟩)))⟩
                · have _q : True := trivial
                  exfalso
                  omega
                · have _q : True := trivial
                  exfalso
                  omega
              · have _q : True := trivial
                refine jx_vr (pc' := 70) (as := [.int (i32 (r360))]) (st := []) rfl rfl rfl rfl ⟨rfl, rfl, Nat.le_of_ble_eq_true rfl⟩ rfl rfl (c_readRest (dd := d) (hE := hE) (hd := by omega) (hW := hW366) (x := r360) (ln := ln) (e_ln := show G358 9 = ln from ((hF367.1 9 rfl).trans (e_ln))) (le := le) (e_le := show A359 4 (ln).toNat = le from (congrFun (hF367.2 4 rfl) _).trans (e_le)) (at0 := at2_361) (e_at0 := show G358 10 = at2_361 from (e370)) (fk := fk2_362) (e_fk := show G358 16 = fk2_362 from (e371)) (op0 := op2_363) (e_op0 := show G358 15 = op2_363 from (e372)) (nd := nd2_364) (e_nd := show G358 31 = nd2_364 from (e373)) (tk0 := tk2_365) (e_tk0 := show G358 11 = tk2_365 from (e374))  (h_x := ⟨(Int.le_trans (by decide : (-2147483648 : Int) ≤ -2147483648) b369.1), (Int.le_trans b369.2 (by decide : (2147483647 : Int) ≤ 2147483647))⟩)  (p_0 := by omega) (p_1 := by omega) (p_2 := by omega) (p_3 := by omega) (p_4 := by omega) (p_5 := by omega) (p_6 := by omega) (p_7 := by omega)) (fun o V' hq => ?_)
                obtain ⟨G435, A436, r437, at2_438, fk2_439, op2_440, nd2_441, tk2_442, rfl, rfl, hW443, hF444, hQ445, b446, e447, e448, e449, e450, e451, p452, p453, p454, p455, p456, p457, q458⟩ := hq
                have hF459 := Fr_tr hF382 hF444 (Fr_sub (by decide)) (Fr_sub (by decide))
                have hP460 := Pf_tr hP383 hQ445 (by omega)
                have bat2_438 : (0 : Int) ≤ at2_438 ∧ at2_438 ≤ 3002 := e447 ▸ hW443.1 10
                have bfk2_439 : (0 : Int) ≤ fk2_439 ∧ fk2_439 ≤ 6 := e448 ▸ hW443.1 16
                have bop2_440 : (-2147483648 : Int) ≤ op2_440 ∧ op2_440 ≤ 2147483647 := e449 ▸ hW443.1 15
                have bnd2_441 : (0 : Int) ≤ nd2_441 ∧ nd2_441 ≤ 6999 := e450 ▸ hW443.1 31
                have ztk2_442 := tz_b tk2_442
                have btk2_442 : (0 : Int) ≤ tk2_442 ∧ tk2_442 ≤ 5 := e451 ▸ hW443.1 11
                refine .inr ⟨_, rfl, ?_⟩
                rcases q458 with ⟨a461, a462, a463, a464, a465, a466⟩ | ⟨a467, a468, a469⟩ | ⟨a470, a471, a472⟩
                · have _q : True := trivial
                  exfalso
                  omega
                · have _q : True := trivial
                  refine jx_rt (v := some (.int (i32 (r437)))) rfl rfl rfl rfl rfl rfl ?_
                  have z473 := tz_f (tk2_442)
                  exact ⟨_, _, _, at2_438, fk2_439, op2_440, nd2_441, tk2_442, rfl, rfl, hW443, hF459, hP460, by omega, (e447), (e448), (e449), (e450), (e451), by omega, by omega, by omega, by omega, by omega, by omega, by first | exact Or.inl (⟨by omega, by omega, by omega, by omega, by omega, by omega⟩) | exact Or.inr (Or.inl (⟨by omega, by omega, by omega⟩)) | exact Or.inr (Or.inr ((⟨by omega, by omega, by omega⟩)))⟩
                · have _q : True := trivial
                  refine jx_rt (v := some (.int (i32 (r437)))) rfl rfl rfl rfl rfl rfl ?_
                  have z474 := tz_f (tk2_442)
                  exact ⟨_, _, _, at2_438, fk2_439, op2_440, nd2_441, tk2_442, rfl, rfl, hW443, hF459, hP460, by omega, (e447), (e448), (e449), (e450), (e451), by omega, by omega, by omega, by omega, by omega, by omega, by first | exact Or.inl (⟨by omega, by omega, by omega, by omega, by omega, by omega⟩) | exact Or.inr (Or.inl (⟨by omega, by omega, by omega⟩)) | exact Or.inr (Or.inr ((⟨by omega, by omega, by omega⟩)))⟩
            · have _q := h357
              exact absurd h357 (by omega)
    · have _q := h8
      exact absurd h8 (by omega)
set_option maxRecDepth 20000 in
set_option maxHeartbeats 4000000 in
theorem c_readE_0 {X : jX} {dd : Nat} {c0 c1 : jC} {G : Nat → Int} {A : Nat → Nat → Int} {T : jH} {ln le at0 fk op0 nd tk0 : Int} (hd : 6 * 0 + 10 ≤ dd) (hW : Wk G A) (e_ln : G 9 = ln) (e_le : A 4 (ln).toNat = le) (e_at0 : G 10 = at0) (e_fk : G 16 = fk) (e_op0 : G 15 = op0) (e_nd : G 31 = nd) (e_tk0 : G 11 = tk0) (p_0 : 0 ≤ op0) (p_1 : op0 ≤ 9) (p_2 : op0 ≤ 8 ∨ 1 ≤ fk) (p_3 : 9 - op0 ≤ ((0 : Nat) : Int) ∨ 1 ≤ fk) (p_4 : nd ≤ 2 * at0 - tz tk0 + 50) (p_5 : at0 ≤ le) : wk X dd 286 [.ref 66] (rV c0 c1 G A T) (fun o V' => ∃ (G' : Nat → Int) (A' : Nat → Nat → Int) (r : Int) (at2 : Int) (fk2 : Int) (op2 : Int) (nd2 : Int) (tk2 : Int), V' = rV c0 c1 G' A' T ∧ o = .inl (some (.int (i32 r))) ∧ Wk G' A' ∧ Fr [10, 11, 12, 13, 14, 15, 16, 17, 18, 31] [15, 16, 17, 18, 19, 20, 21, 22, 24, 28] G A G' A' ∧ Pf nd A A' ∧ ((-2147483648 : Int) ≤ r ∧ r ≤ 2147483647) ∧ G' 10 = at2 ∧ G' 16 = fk2 ∧ G' 15 = op2 ∧ G' 31 = nd2 ∧ G' 11 = tk2 ∧ (at0 ≤ at2) ∧ (at2 ≤ le) ∧ (nd ≤ nd2) ∧ (op2 = op0) ∧ (0 ≤ r) ∧ (r ≤ nd2) ∧ (((1 ≤ fk) ∧ (1 ≤ fk2) ∧ (nd2 = nd) ∧ (at2 = at0) ∧ (tk2 = tk0) ∧ (tz tk2 = tz tk0)) ∨ ((fk = 0) ∧ (1 ≤ fk2) ∧ (nd2 - nd ≤ (2 * at2 - tz tk2) - (2 * at0 - tz tk0) + 1)) ∨ ((fk = 0) ∧ (fk2 = 0) ∧ (nd2 - nd ≤ (2 * at2 - tz tk2) - (2 * at0 - tz tk0))))) := by
  obtain ⟨d, rfl⟩ : ∃ d, dd = d + 1 := ⟨dd - 1, by omega⟩
  refine wk_of (e := jm286) rfl (Nat.le_of_ble_eq_true rfl) ?_
  show wj X d jm286 (0, [(0, .ref 66)], [], rV c0 c1 G A T) _
  have hF0 : Fr [10, 11, 12, 13, 14, 15, 16, 17, 18, 31] [15, 16, 17, 18, 19, 20, 21, 22, 24, 28] G A G A := Fr_rf
  have hP0 : Pf nd A A := Pf_rf
  have b_ln : (0 : Int) ≤ ln ∧ ln ≤ 3000 := e_ln ▸ hW.1 9
  have b_le : (0 : Int) ≤ le ∧ le ≤ 3000 := e_le ▸ hW.2 4 _
  have b_at0 : (0 : Int) ≤ at0 ∧ at0 ≤ 3002 := e_at0 ▸ hW.1 10
  have b_fk : (0 : Int) ≤ fk ∧ fk ≤ 6 := e_fk ▸ hW.1 16
  have b_op0 : (-2147483648 : Int) ≤ op0 ∧ op0 ≤ 2147483647 := e_op0 ▸ hW.1 15
  have b_nd : (0 : Int) ≤ nd ∧ nd ≤ 6999 := e_nd ▸ hW.1 31
  have z_tk0 := tz_f tk0
  have b_tk0 : (0 : Int) ≤ tk0 ∧ tk0 ≤ 5 := e_tk0 ▸ hW.1 11
  refine jx_ld (pc' := 1) (l' := [(0, .ref 66)]) (st' := [.ref 66]) rfl (jl_aloadn rfl) ?_
  refine jx_vr (pc' := 4) (as := []) (st := []) rfl rfl rfl rfl ⟨rfl, rfl, Nat.le_of_ble_eq_true rfl⟩ rfl rfl (c_bad (dd := d) (hd := by omega) (hW := hW)  (fk := fk) (e_fk := show G 16 = fk from (e_fk))    ) (fun o V' hq => ?_)
  obtain ⟨r1, rfl, rfl, b2, q3⟩ := hq
  refine .inr ⟨_, rfl, ?_⟩
  rcases q3 with ⟨rfl, a4⟩ | ⟨rfl, a5⟩
  · have _q : True := trivial
    refine jx_if_eq (pc' := 7) (tg := 9) rfl rfl rfl (by decide) (by decide) (fun h6 => ?_) (fun h6 => ?_)
    · have _q := h6
      exact absurd h6 (by omega)
    · have _q := h6
      refine jx_ar (pc' := 8) (st' := [.int (i32 (0))]) rfl rfl rfl rfl ?_
      refine jx_rt (v := some (.int (i32 (0)))) rfl rfl rfl rfl rfl rfl ?_
      have z7 := tz_f (tk0)
      exact ⟨_, _, _, at0, fk, op0, nd, tk0, rfl, rfl, hW, hF0, hP0, by omega, (e_at0), (e_fk), (e_op0), (e_nd), (e_tk0), by omega, by omega, by omega, by omega, by omega, by omega, by first | exact Or.inl (⟨by omega, by omega, by omega, by omega, by omega, by omega⟩) | exact Or.inr (Or.inl (⟨by omega, by omega, by omega⟩)) | exact Or.inr (Or.inr ((⟨by omega, by omega, by omega⟩)))⟩
  · have _q : True := trivial
    refine jx_if_eq (pc' := 7) (tg := 9) rfl rfl rfl (by decide) (by decide) (fun h8 => ?_) (fun h8 => ?_)
    · have _q := h8
      exfalso
      omega
    · have _q := h8
      exact absurd h8 (by omega)
theorem RE_all (X : jX) : ∀ k, RE X k
  | 0 => @c_readE_0 X
  | k + 1 => @c_readE_s X k (RE_all X k)

